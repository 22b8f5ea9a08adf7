def fF_rd_parameter : List Nat := [205, 206, 207, 208, 209, 210, 211, 212]
def fA_rd_parameter : List Nat := [39, 40, 41, 42]
def Q_rd_parameter (m : mR) (c : Nat → Option am_C) (N : Nat) (a : Int) (i : Int) : ag_Re af_T → Prop := fun R => (∃ (M : mR), KTy M ∧ fr fF_rd_parameter fA_rd_parameter m M ∧ R = (.inl (none), (khp M c, N), 0, 0)) ∨ (∃ (x : Nat) (M : mR), (x = 0) ∧ (KTy M) ∧ (fr fF_rd_parameter fA_rd_parameter m M) ∧ R = (.inr x, (khp M c, N), 1, 6))
set_option maxHeartbeats 3000000 in
theorem c_rd_parameter (w : wX) (m : mR) (c : Nat → Option am_C) (N D : Nat) (hD : 9 ≤ D) (hT : KTy m) (a : Int) (i : Int) (qa : R32 a) (qi : R32 i) (p0 : 0 ≤ a ∧ a ≤ 15) (p1 : 0 ≤ i ∧ i ≤ 4) : TC w D 119 [.ref 178, .int (i32 a), .int (i32 i)] (khp m c, N) (Q_rd_parameter m c N a i) := by
  obtain ⟨D, rfl⟩ : ∃ k, D = k + 1 := ⟨D - 1, by omega⟩
  obtain ⟨qaa, qab⟩ := id qa
  obtain ⟨qia, qib⟩ := id qi
  have f206 : (-1) ≤ m.1 206 ∧ m.1 206 ≤ 65535 := hT.1 206
  have f207 : 0 ≤ m.1 207 ∧ m.1 207 ≤ 4001 := hT.1 207
  have f209 : (-9223372036854775808) ≤ m.1 209 ∧ m.1 209 ≤ 9223372036854775807 := hT.1 209
  have f210 : (-9223372036854775808) ≤ m.1 210 ∧ m.1 210 ≤ 9223372036854775807 := hT.1 210
  have f213 : 0 ≤ m.1 213 ∧ m.1 213 ≤ 1 := hT.1 213
  refine Tc_of rfl ?_
  rw [show (khp m c, N) = (khp (mO m [] []) c, N) from by rw [mO_nil m]]
  show TT w D pm_119 (0, [(0, .ref 178), (1, .int (i32 a)), (2, .int (i32 i))], [], (khp (mO m [] []) c, N), 0, 0) (Q_rd_parameter m c N a i)
  refine T_ld 1 (.ref 178) rfl (fun _ => rfl) ?_
  refine K_gf 4 (.ref 6) rfl rfl kd_178 rfl rfl rfl ?_
  refine K_gf 7 (.int (i32 (m.1 206))) rfl rfl kd_6 rfl rfl rfl ?_
  refine T_ld 10 (.int (i32 256)) rfl (fun _ => rfl) ?_
  refine T_icmp 20 13 rfl rfl rfl (r32 (by omega) (by omega)) ⟨by decide, by decide⟩ (fun (h1 : (m.1 206) = 256) => ?_) (fun (h1 : ¬ ((m.1 206) = 256)) => ?_)
  · skip
    refine T_ld 21 (.int (i32 i)) rfl (fun _ => rfl) ?_
    refine T_ld 22 (.int (i32 4)) rfl (fun _ => rfl) ?_
    refine T_icmp 40 25 rfl rfl rfl (r32 (by omega) (by omega)) ⟨by decide, by decide⟩ (fun (h2 : i < 4) => ?_) (fun (h2 : ¬ (i < 4)) => ?_)
    · skip
      refine T_ld 41 (.ref 178) rfl (fun _ => rfl) ?_
      refine K_gf 44 (.ref 45) rfl rfl kd_178 rfl rfl rfl ?_
      refine T_ld 45 (.int (i32 a)) rfl (fun _ => rfl) ?_
      refine T_ld 46 (.ref 178) rfl (fun _ => rfl) ?_
      refine K_gf 49 (.ref 6) rfl rfl kd_178 rfl rfl rfl ?_
      refine K_gf 52 (.long (i64 (m.1 209))) rfl rfl kd_6 rfl rfl rfl ?_
      refine T_ld 53 (.ref 178) rfl (fun _ => rfl) ?_
      refine K_gf 56 (.ref 6) rfl rfl kd_178 rfl rfl rfl ?_
      refine K_gf 59 (.long (i64 (m.1 210))) rfl rfl kd_6 rfl rfl rfl ?_
      refine T_callx 62 98 [.ref 45, .int (i32 a), .long (i64 (m.1 209)), .long (i64 (m.1 210))] [] rfl (fun _ => rfl) rfl rfl (c_ac_parameterOf w (mO m [] []) c N D (by omega) hT a (m.1 209) (m.1 210) (r32 (by omega) (by omega)) (r64 (by omega) (by omega)) (r64 (by omega) (by omega)) (show (-1) ≤ a ∧ a ≤ 15 by omega)) (fun rr3 k4 => ?_)
      obtain ⟨x5, g6, h7, rfl⟩ := k4
      refine Or.inl ⟨_, _, _, _, rfl, ?_⟩
      refine T_ns (st' := [.int (i32 x5)]) rfl ?_
      obtain ⟨g6a, g6b⟩ := g6
      replace h7 : x5 = -1 ∨ 0 ≤ a := h7
      refine T_ld 63 (.int (i32 (-1))) rfl (fun _ => rfl) ?_
      refine T_icmp 81 66 rfl rfl rfl (r32 (by omega) (by omega)) ⟨by decide, by decide⟩ (fun (h8 : x5 = (-1)) => ?_) (fun (h8 : ¬ (x5 = (-1))) => ?_)
      · skip
        refine T_ld 82 (.int (i32 a)) rfl (fun _ => rfl) ?_
        refine T_ld 83 (.int (i32 4)) rfl (fun _ => rfl) ?_
        refine T_imul 84 rfl rfl ?_
        refine T_ld 85 (.int (i32 i)) rfl (fun _ => rfl) ?_
        refine T_iadd 86 rfl rfl ?_
        refine T_sto 87 [(3, .int (i32 ((a * 4) + i))), (0, .ref 178), (1, .int (i32 a)), (2, .int (i32 i))] rfl (fun _ => rfl) ?_
        refine T_ld 88 (.ref 178) rfl (fun _ => rfl) ?_
        refine K_gf 91 (.ref 45) rfl rfl kd_178 rfl rfl rfl ?_
        refine K_gf 94 (.ref 48) rfl rfl kd_45 rfl rfl rfl ?_
        refine T_ld 95 (.int (i32 ((a * 4) + i))) rfl (fun _ => rfl) ?_
        refine T_ld 96 (.ref 178) rfl (fun _ => rfl) ?_
        refine K_gf 99 (.ref 6) rfl rfl kd_178 rfl rfl rfl ?_
        refine K_gf 102 (.long (i64 (m.1 209))) rfl rfl kd_6 rfl rfl rfl ?_
        have G9 : ∀ j, (-9223372036854775808) ≤ (upI (m.2 41) ((a * 4) + i) (m.1 209)) j ∧ (upI (m.2 41) ((a * 4) + i) (m.1 209)) j ≤ 9223372036854775807 := upI_rg (hT.2.1 41) ⟨by omega, by omega⟩
        refine K_last (a' := [(41, upI (m.2 41) ((a * 4) + i) (m.1 209))]) 103 41 (m.2 41) rfl rfl rfl (by omega) (show ((a * 4) + i) < (64 : Int) by omega) rfl rfl ?_
        refine T_ld 104 (.ref 178) rfl (fun _ => rfl) ?_
        refine K_gf 107 (.ref 45) rfl rfl kd_178 rfl rfl rfl ?_
        refine K_gf 110 (.ref 49) rfl rfl kd_45 rfl rfl rfl ?_
        refine T_ld 111 (.int (i32 ((a * 4) + i))) rfl (fun _ => rfl) ?_
        refine T_ld 112 (.ref 178) rfl (fun _ => rfl) ?_
        refine K_gf 115 (.ref 6) rfl rfl kd_178 rfl rfl rfl ?_
        refine K_gf 118 (.long (i64 (m.1 210))) rfl rfl kd_6 rfl rfl rfl ?_
        have G10 : ∀ j, (-9223372036854775808) ≤ (upI (m.2 42) ((a * 4) + i) (m.1 210)) j ∧ (upI (m.2 42) ((a * 4) + i) (m.1 210)) j ≤ 9223372036854775807 := upI_rg (hT.2.1 42) ⟨by omega, by omega⟩
        refine K_last (a' := [(41, upI (m.2 41) ((a * 4) + i) (m.1 209)), (42, upI (m.2 42) ((a * 4) + i) (m.1 210))]) 119 42 (m.2 42) rfl rfl rfl (by omega) (show ((a * 4) + i) < (64 : Int) by omega) rfl rfl ?_
        refine T_ld 120 (.ref 178) rfl (fun _ => rfl) ?_
        refine K_gf 123 (.ref 6) rfl rfl kd_178 rfl rfl rfl ?_
        refine T_callx 126 50 [.ref 6] [] rfl (fun _ => rfl) rfl rfl (c_tx_advance w (mO m [] [(41, upI (m.2 41) ((a * 4) + i) (m.1 209)), (42, upI (m.2 42) ((a * 4) + i) (m.1 210))]) c N D (by omega) (KTy_mO hT rfl rfl trivial ⟨G9, G10, trivial⟩) ) (fun rr11 k12 => ?_)
        rcases k12 with ⟨m13, Tm13, Fm13, h14, rfl⟩ | ⟨xx17, m15, hx16, Tm15, Fm15, rfl⟩
        rotate_left
        · skip
          refine Or.inr ⟨_, _, _, _, rfl, ?_⟩
          exact Or.inr ⟨xx17, (mO m15 [] []), (hx16), Tm15, (fr_m (fr_s Fm15 (fr_m fr_0 rfl rfl) rfl rfl) rfl rfl), rfl⟩
        refine Or.inl ⟨_, _, _, _, rfl, ?_⟩
        refine K_nb (st' := []) rfl ?_
        have g18 : (-1) ≤ m13.1 206 ∧ m13.1 206 ≤ 65535 := Tm13.1 206
        have g19 : 0 ≤ m13.1 207 ∧ m13.1 207 ≤ 4001 := Tm13.1 207
        have g20 : (-9223372036854775808) ≤ m13.1 209 ∧ m13.1 209 ≤ 9223372036854775807 := Tm13.1 209
        have g21 : (-9223372036854775808) ≤ m13.1 210 ∧ m13.1 210 ≤ 9223372036854775807 := Tm13.1 210
        replace h14 : (m.1 213) = 0 := h14
        refine T_ld 127 (.ref 178) rfl (fun _ => rfl) ?_
        refine K_gf 130 (.ref 6) rfl rfl kd_178 rfl rfl rfl ?_
        refine T_ld 132 (.int (i32 58)) rfl (fun _ => rfl) ?_
        refine T_callx 135 78 [.ref 6, .int (i32 58)] [] rfl (fun _ => rfl) rfl rfl (c_tx_expect w (mO m13 [] []) c N D (by omega) Tm13 58 ⟨by decide, by decide⟩) (fun rr22 k23 => ?_)
        rcases k23 with ⟨m24, Tm24, Fm24, h25, h26, rfl⟩ | ⟨xx29, m27, hx28, Tm27, Fm27, rfl⟩
        rotate_left
        · skip
          refine Or.inr ⟨_, _, _, _, rfl, ?_⟩
          exact Or.inr ⟨xx29, (mO m27 [] []), (hx28), Tm27, (fr_m (fr_s Fm27 (fr_m (fr_s Fm13 (fr_m fr_0 rfl rfl) rfl rfl) rfl rfl) rfl rfl) rfl rfl), rfl⟩
        refine Or.inl ⟨_, _, _, _, rfl, ?_⟩
        refine K_nb (st' := []) rfl ?_
        have g30 : (-1) ≤ m24.1 206 ∧ m24.1 206 ≤ 65535 := Tm24.1 206
        have g31 : 0 ≤ m24.1 207 ∧ m24.1 207 ≤ 4001 := Tm24.1 207
        have g32 : (-9223372036854775808) ≤ m24.1 209 ∧ m24.1 209 ≤ 9223372036854775807 := Tm24.1 209
        have g33 : (-9223372036854775808) ≤ m24.1 210 ∧ m24.1 210 ≤ 9223372036854775807 := Tm24.1 210
        replace h25 : (m13.1 206) = (58 : Int) := h25
        replace h26 : (m13.1 213) = 0 := h26
        rewrite [(show (m13.1 213) = (m.1 213) from (fr1 Fm13 213 rfl))] at h26
        refine T_ld 136 (.ref 178) rfl (fun _ => rfl) ?_
        refine K_gf 139 (.ref 45) rfl rfl kd_178 rfl rfl rfl ?_
        refine K_gf 142 (.ref 47) rfl rfl kd_45 rfl rfl rfl ?_
        refine T_ld 143 (.int (i32 ((a * 4) + i))) rfl (fun _ => rfl) ?_
        refine T_ld 144 (.ref 178) rfl (fun _ => rfl) ?_
        refine K_gf 147 (.ref 6) rfl rfl kd_178 rfl rfl rfl ?_
        refine T_ld 148 (.int (i32 1)) rfl (fun _ => rfl) ?_
        refine T_ld 150 (.int (i32 64)) rfl (fun _ => rfl) ?_
        refine T_callx 153 81 [.ref 6, .int (i32 1), .int (i32 64)] [.int (i32 ((a * 4) + i)), .ref 47] rfl (fun _ => rfl) rfl rfl (c_tx_within w (mO m24 [] []) c N D (by omega) Tm24 1 64 ⟨by decide, by decide⟩ ⟨by decide, by decide⟩ (show 0 ≤ (1 : Int) ∧ (1 : Int) ≤ (64 : Int) ∧ (64 : Int) ≤ 64 by omega)) (fun rr34 k35 => ?_)
        rcases k35 with ⟨m36, wn, Tm36, Fm36, g37, h38, h39, rfl⟩ | ⟨xx42, m40, hx41, Tm40, Fm40, rfl⟩
        rotate_left
        · skip
          refine Or.inr ⟨_, _, _, _, rfl, ?_⟩
          exact Or.inr ⟨xx42, (mO m40 [] []), (hx41), Tm40, (fr_m (fr_s Fm40 (fr_m (fr_s Fm24 (fr_m (fr_s Fm13 (fr_m fr_0 rfl rfl) rfl rfl) rfl rfl) rfl rfl) rfl rfl) rfl rfl) rfl rfl), rfl⟩
        refine Or.inl ⟨_, _, _, _, rfl, ?_⟩
        refine K_nb (st' := [.int (i32 wn), .int (i32 ((a * 4) + i)), .ref 47]) rfl ?_
        obtain ⟨g37a, g37b⟩ := g37
        have g43 : (-1) ≤ m36.1 206 ∧ m36.1 206 ≤ 65535 := Tm36.1 206
        have g44 : 0 ≤ m36.1 207 ∧ m36.1 207 ≤ 4001 := Tm36.1 207
        have g45 : (-9223372036854775808) ≤ m36.1 209 ∧ m36.1 209 ≤ 9223372036854775807 := Tm36.1 209
        have g46 : (-9223372036854775808) ≤ m36.1 210 ∧ m36.1 210 ≤ 9223372036854775807 := Tm36.1 210
        replace h38 : (1 : Int) ≤ wn ∧ wn ≤ (64 : Int) := h38
        replace h39 : (m24.1 213) = 0 := h39
        rewrite [(show (m24.1 213) = (m.1 213) from ((fr1 Fm24 213 rfl).trans (fr1 Fm13 213 rfl)))] at h39
        have G47 : ∀ j, 0 ≤ (upI (m.2 40) ((a * 4) + i) wn) j ∧ (upI (m.2 40) ((a * 4) + i) wn) j ≤ 64 := upI_rg (hT.2.1 40) ⟨by omega, by omega⟩
        refine K_iast (a' := [(40, upI (m.2 40) ((a * 4) + i) wn)]) 154 40 (m.2 40) rfl rfl rfl (by omega) (show ((a * 4) + i) < (64 : Int) by omega) (show (m36.2 40) = (m.2 40) from ((fr2 Fm36 40 rfl).trans ((fr2 Fm24 40 rfl).trans (fr2 Fm13 40 rfl)))) rfl ?_
        refine T_ld 155 (.ref 178) rfl (fun _ => rfl) ?_
        refine K_gf 158 (.ref 45) rfl rfl kd_178 rfl rfl rfl ?_
        refine K_gf 161 (.ref 46) rfl rfl kd_45 rfl rfl rfl ?_
        refine T_ld 162 (.int (i32 a)) rfl (fun _ => rfl) ?_
        refine T_ld 163 (.int (i32 i)) rfl (fun _ => rfl) ?_
        refine T_ld 164 (.int (i32 1)) rfl (fun _ => rfl) ?_
        refine T_iadd 165 rfl rfl ?_
        have G48 : ∀ j, 0 ≤ (upI (m.2 39) a (i + 1)) j ∧ (upI (m.2 39) a (i + 1)) j ≤ 4 := upI_rg (hT.2.1 39) ⟨by omega, by omega⟩
        refine K_iast (a' := [(39, upI (m.2 39) a (i + 1)), (40, upI (m.2 40) ((a * 4) + i) wn)]) 166 39 (m.2 39) rfl rfl rfl (by omega) (show a < (16 : Int) by omega) (show (m36.2 39) = (m.2 39) from ((fr2 Fm36 39 rfl).trans ((fr2 Fm24 39 rfl).trans (fr2 Fm13 39 rfl)))) rfl ?_
        refine T_ret rfl (fun _ => rfl) ?_
        exact Or.inl ⟨(mO m36 [] [(39, upI (m.2 39) a (i + 1)), (40, upI (m.2 40) ((a * 4) + i) wn)]), (KTy_mO Tm36 rfl rfl trivial ⟨G48, G47, trivial⟩), (fr_m (fr_s Fm36 (fr_m (fr_s Fm24 (fr_m (fr_s Fm13 (fr_m fr_0 rfl rfl) rfl rfl) rfl rfl) rfl rfl) rfl rfl) rfl rfl) rfl rfl), rfl⟩
      · skip
        refine T_ld 67 (.ref 178) rfl (fun _ => rfl) ?_
        refine K_gf 70 (.ref 6) rfl rfl kd_178 rfl rfl rfl ?_
        refine T_ld 71 (.int (i32 3)) rfl (fun _ => rfl) ?_
        refine T_ld 72 (.ref 178) rfl (fun _ => rfl) ?_
        refine K_gf 75 (.ref 6) rfl rfl kd_178 rfl rfl rfl ?_
        refine K_gf 78 (.int (i32 (m.1 207))) rfl rfl kd_6 rfl rfl rfl ?_
        refine T_callx 81 51 [.ref 6, .int (i32 3), .int (i32 (m.1 207))] [] rfl (fun _ => rfl) rfl rfl (c_tx_fail w (mO m [] []) c N D (by omega) hT 3 (m.1 207) ⟨by decide, by decide⟩ (r32 (by omega) (by omega)) (show 1 ≤ (3 : Int) ∧ (3 : Int) ≤ 8 by omega) (show 0 ≤ (m.1 207) ∧ (m.1 207) ≤ 4001 by omega)) (fun rr49 k50 => ?_)
        rcases k50 with ⟨m51, Tm51, Fm51, h52, rfl⟩ | ⟨xx55, m53, hx54, Tm53, Fm53, rfl⟩
        rotate_left
        · skip
          refine Or.inr ⟨_, _, _, _, rfl, ?_⟩
          exact Or.inr ⟨xx55, (mO m53 [] []), (hx54), Tm53, (fr_m (fr_s Fm53 (fr_m fr_0 rfl rfl) rfl rfl) rfl rfl), rfl⟩
        exact h52.elim
    · skip
      refine T_ld 26 (.ref 178) rfl (fun _ => rfl) ?_
      refine K_gf 29 (.ref 6) rfl rfl kd_178 rfl rfl rfl ?_
      refine T_ld 30 (.int (i32 4)) rfl (fun _ => rfl) ?_
      refine T_ld 31 (.ref 178) rfl (fun _ => rfl) ?_
      refine K_gf 34 (.ref 6) rfl rfl kd_178 rfl rfl rfl ?_
      refine K_gf 37 (.int (i32 (m.1 207))) rfl rfl kd_6 rfl rfl rfl ?_
      refine T_callx 40 51 [.ref 6, .int (i32 4), .int (i32 (m.1 207))] [] rfl (fun _ => rfl) rfl rfl (c_tx_fail w (mO m [] []) c N D (by omega) hT 4 (m.1 207) ⟨by decide, by decide⟩ (r32 (by omega) (by omega)) (show 1 ≤ (4 : Int) ∧ (4 : Int) ≤ 8 by omega) (show 0 ≤ (m.1 207) ∧ (m.1 207) ≤ 4001 by omega)) (fun rr56 k57 => ?_)
      rcases k57 with ⟨m58, Tm58, Fm58, h59, rfl⟩ | ⟨xx62, m60, hx61, Tm60, Fm60, rfl⟩
      rotate_left
      · skip
        refine Or.inr ⟨_, _, _, _, rfl, ?_⟩
        exact Or.inr ⟨xx62, (mO m60 [] []), (hx61), Tm60, (fr_m (fr_s Fm60 (fr_m fr_0 rfl rfl) rfl rfl) rfl rfl), rfl⟩
      exact h59.elim
  · skip
    refine T_ld 14 (.ref 178) rfl (fun _ => rfl) ?_
    refine K_gf 17 (.ref 6) rfl rfl kd_178 rfl rfl rfl ?_
    refine T_callx 20 76 [.ref 6] [] rfl (fun _ => rfl) rfl rfl (c_tx_refuse w (mO m [] []) c N D (by omega) hT ) (fun rr63 k64 => ?_)
    rcases k64 with ⟨m65, Tm65, Fm65, h66, rfl⟩ | ⟨xx69, m67, hx68, Tm67, Fm67, rfl⟩
    rotate_left
    · skip
      refine Or.inr ⟨_, _, _, _, rfl, ?_⟩
      exact Or.inr ⟨xx69, (mO m67 [] []), (hx68), Tm67, (fr_m (fr_s Fm67 (fr_m fr_0 rfl rfl) rfl rfl) rfl rfl), rfl⟩
    exact h66.elim
def fF_rd_goesOnList : List Nat := [205, 206, 207, 208, 209, 210, 211, 212]
def fA_rd_goesOnList : List Nat := []
def Q_rd_goesOnList (m : mR) (c : Nat → Option am_C) (N : Nat) : ag_Re af_T → Prop := fun R => (∃ (M : mR) (r : Int), KTy M ∧ fr fF_rd_goesOnList fA_rd_goesOnList m M ∧ (0 ≤ r ∧ r ≤ 1) ∧ R = (.inl (some (.int (i32 r))), (khp M c, N), 0, 0)) ∨ (∃ (x : Nat) (M : mR), (x = 0) ∧ (KTy M) ∧ (fr fF_rd_goesOnList fA_rd_goesOnList m M) ∧ R = (.inr x, (khp M c, N), 1, 6))
set_option maxHeartbeats 3000000 in
theorem c_rd_goesOnList (w : wX) (m : mR) (c : Nat → Option am_C) (N D : Nat) (hD : 8 ≤ D) (hT : KTy m) : TC w D 120 [.ref 178] (khp m c, N) (Q_rd_goesOnList m c N) := by
  obtain ⟨D, rfl⟩ : ∃ k, D = k + 1 := ⟨D - 1, by omega⟩
  have f206 : (-1) ≤ m.1 206 ∧ m.1 206 ≤ 65535 := hT.1 206
  have f213 : 0 ≤ m.1 213 ∧ m.1 213 ≤ 1 := hT.1 213
  refine Tc_of rfl ?_
  rw [show (khp m c, N) = (khp (mO m [] []) c, N) from by rw [mO_nil m]]
  show TT w D pm_120 (0, [(0, .ref 178)], [], (khp (mO m [] []) c, N), 0, 0) (Q_rd_goesOnList m c N)
  refine T_ld 1 (.ref 178) rfl (fun _ => rfl) ?_
  refine K_gf 4 (.ref 6) rfl rfl kd_178 rfl rfl rfl ?_
  refine K_gf 7 (.int (i32 (m.1 206))) rfl rfl kd_6 rfl rfl rfl ?_
  refine T_ld 9 (.int (i32 44)) rfl (fun _ => rfl) ?_
  refine T_icmp 14 12 rfl rfl rfl (r32 (by omega) (by omega)) ⟨by decide, by decide⟩ (fun (h1 : (m.1 206) = 44) => ?_) (fun (h1 : ¬ ((m.1 206) = 44)) => ?_)
  · skip
    refine T_ld 15 (.ref 178) rfl (fun _ => rfl) ?_
    refine K_gf 18 (.ref 6) rfl rfl kd_178 rfl rfl rfl ?_
    refine T_callx 21 50 [.ref 6] [] rfl (fun _ => rfl) rfl rfl (c_tx_advance w (mO m [] []) c N D (by omega) hT ) (fun rr2 k3 => ?_)
    rcases k3 with ⟨m4, Tm4, Fm4, h5, rfl⟩ | ⟨xx8, m6, hx7, Tm6, Fm6, rfl⟩
    rotate_left
    · skip
      refine Or.inr ⟨_, _, _, _, rfl, ?_⟩
      exact Or.inr ⟨xx8, (mO m6 [] []), (hx7), Tm6, (fr_m (fr_s Fm6 (fr_m fr_0 rfl rfl) rfl rfl) rfl rfl), rfl⟩
    refine Or.inl ⟨_, _, _, _, rfl, ?_⟩
    refine K_nb (st' := []) rfl ?_
    have g9 : (-1) ≤ m4.1 206 ∧ m4.1 206 ≤ 65535 := Tm4.1 206
    replace h5 : (m.1 213) = 0 := h5
    refine T_ld 22 (.int (i32 1)) rfl (fun _ => rfl) ?_
    refine T_ret rfl (fun _ => rfl) ?_
    exact Or.inl ⟨(mO m4 [] []), 1, Tm4, (fr_m (fr_s Fm4 (fr_m fr_0 rfl rfl) rfl rfl) rfl rfl), ⟨by omega, by omega⟩, rfl⟩
  · skip
    refine T_ld 13 (.int (i32 0)) rfl (fun _ => rfl) ?_
    refine T_ret rfl (fun _ => rfl) ?_
    exact Or.inl ⟨(mO m [] []), 0, hT, (fr_m fr_0 rfl rfl), ⟨by omega, by omega⟩, rfl⟩
def fF_rd_writtenSlot : List Nat := [205, 206, 207, 208, 209, 210, 211, 212]
def fA_rd_writtenSlot : List Nat := []
def Q_rd_writtenSlot (m : mR) (c : Nat → Option am_C) (N : Nat) : ag_Re af_T → Prop := fun R => (∃ (M : mR) (r : Int), KTy M ∧ fr fF_rd_writtenSlot fA_rd_writtenSlot m M ∧ (0 ≤ r ∧ r ≤ 219) ∧ R = (.inl (some (.int (i32 r))), (khp M c, N), 0, 0)) ∨ (∃ (x : Nat) (M : mR), (x = 0) ∧ (KTy M) ∧ (fr fF_rd_writtenSlot fA_rd_writtenSlot m M) ∧ R = (.inr x, (khp M c, N), 1, 6))
set_option maxHeartbeats 3000000 in
theorem c_rd_writtenSlot (w : wX) (m : mR) (c : Nat → Option am_C) (N D : Nat) (hD : 9 ≤ D) (hT : KTy m) (pKP : KPp (m.1 203) (m.2 8) (m.2 9) (m.1 214) (m.1 215) (m.1 216) (m.1 217) (m.1 221) (m.1 223) (m.1 219)) : TC w D 124 [.ref 178] (khp m c, N) (Q_rd_writtenSlot m c N) := by
  obtain ⟨D, rfl⟩ : ∃ k, D = k + 1 := ⟨D - 1, by omega⟩
  have f206 : (-1) ≤ m.1 206 ∧ m.1 206 ≤ 65535 := hT.1 206
  have f207 : 0 ≤ m.1 207 ∧ m.1 207 ≤ 4001 := hT.1 207
  have f203 : 0 ≤ m.1 203 ∧ m.1 203 ≤ 90 := hT.1 203
  have f214 : 0 ≤ m.1 214 ∧ m.1 214 ≤ 12 := hT.1 214
  have f215 : 0 ≤ m.1 215 ∧ m.1 215 ≤ 12 := hT.1 215
  have f216 : 0 ≤ m.1 216 ∧ m.1 216 ≤ 16 := hT.1 216
  have f217 : 0 ≤ m.1 217 ∧ m.1 217 ≤ 8 := hT.1 217
  have f219 : 0 ≤ m.1 219 ∧ m.1 219 ≤ 8 := hT.1 219
  have f221 : 0 ≤ m.1 221 ∧ m.1 221 ≤ 16 := hT.1 221
  have f223 : 0 ≤ m.1 223 ∧ m.1 223 ≤ 16 := hT.1 223
  refine Tc_of rfl ?_
  rw [show (khp m c, N) = (khp (mO m [] []) c, N) from by rw [mO_nil m]]
  show TT w D pm_124 (0, [(0, .ref 178)], [], (khp (mO m [] []) c, N), 0, 0) (Q_rd_writtenSlot m c N)
  refine T_ld 1 (.ref 178) rfl (fun _ => rfl) ?_
  refine K_gf 4 (.ref 6) rfl rfl kd_178 rfl rfl rfl ?_
  refine K_gf 7 (.int (i32 (m.1 206))) rfl rfl kd_6 rfl rfl rfl ?_
  refine T_ld 10 (.int (i32 256)) rfl (fun _ => rfl) ?_
  refine T_icmp 20 13 rfl rfl rfl (r32 (by omega) (by omega)) ⟨by decide, by decide⟩ (fun (h1 : (m.1 206) = 256) => ?_) (fun (h1 : ¬ ((m.1 206) = 256)) => ?_)
  · skip
    refine T_ld 21 (.ref 178) rfl (fun _ => rfl) ?_
    refine K_gf 24 (.ref 6) rfl rfl kd_178 rfl rfl rfl ?_
    refine T_ld 27 (.int (i32 302)) rfl (fun _ => rfl) ?_
    refine T_callx 30 84 [.ref 6, .int (i32 302)] [] rfl (fun _ => rfl) rfl rfl (c_tx_indexOf w (mO m [] []) c N D (by omega) hT 302 ⟨by decide, by decide⟩) (fun rr2 k3 => ?_)
    obtain ⟨io, g4, h5, rfl⟩ := k3
    refine Or.inl ⟨_, _, _, _, rfl, ?_⟩
    refine T_ns (st' := [.int (i32 io)]) rfl ?_
    obtain ⟨g4a, g4b⟩ := g4
    replace h5 : io = -1 ∨ KNo (m.1 203) (m.2 8) (m.2 9) (302 : Int) io := h5
    have hIo := h5
    refine T_sto 31 [(1, .int (i32 io)), (0, .ref 178)] rfl (fun _ => rfl) ?_
    refine T_ld 32 (.int (i32 io)) rfl (fun _ => rfl) ?_
    refine T_if 40 35 rfl rfl rfl (r32 (by omega) (by omega)) (fun (h6 : io = 0) => ?_) (fun (h6 : ¬ (io = 0)) => ?_)
    · skip
      refine T_ld 41 (.ref 178) rfl (fun _ => rfl) ?_
      refine K_gf 44 (.ref 6) rfl rfl kd_178 rfl rfl rfl ?_
      refine T_ld 46 (.int (i32 6)) rfl (fun _ => rfl) ?_
      refine T_ld 47 (.ref 178) rfl (fun _ => rfl) ?_
      refine K_gf 50 (.ref 6) rfl rfl kd_178 rfl rfl rfl ?_
      refine K_gf 53 (.int (i32 (m.1 207))) rfl rfl kd_6 rfl rfl rfl ?_
      refine T_callx 56 51 [.ref 6, .int (i32 6), .int (i32 (m.1 207))] [] rfl (fun _ => rfl) rfl rfl (c_tx_fail w (mO m [] []) c N D (by omega) hT 6 (m.1 207) ⟨by decide, by decide⟩ (r32 (by omega) (by omega)) (show 1 ≤ (6 : Int) ∧ (6 : Int) ≤ 8 by omega) (show 0 ≤ (m.1 207) ∧ (m.1 207) ≤ 4001 by omega)) (fun rr7 k8 => ?_)
      rcases k8 with ⟨m9, Tm9, Fm9, h10, rfl⟩ | ⟨xx13, m11, hx12, Tm11, Fm11, rfl⟩
      rotate_left
      · skip
        refine Or.inr ⟨_, _, _, _, rfl, ?_⟩
        exact Or.inr ⟨xx13, (mO m11 [] []), (hx12), Tm11, (fr_m (fr_s Fm11 (fr_m fr_0 rfl rfl) rfl rfl) rfl rfl), rfl⟩
      exact h10.elim
    · skip
      refine T_ld 36 (.int (i32 io)) rfl (fun _ => rfl) ?_
      refine T_ld 37 (.int (i32 1)) rfl (fun _ => rfl) ?_
      refine T_icmp 56 40 rfl rfl rfl (r32 (by omega) (by omega)) ⟨by decide, by decide⟩ (fun (h14 : io ≠ 1) => ?_) (fun (h14 : ¬ (io ≠ 1)) => ?_)
      · skip
        refine T_ld 57 (.ref 178) rfl (fun _ => rfl) ?_
        refine K_gf 60 (.ref 181) rfl rfl kd_178 rfl rfl rfl ?_
        refine T_callx 63 99 [.ref 181] [] rfl (fun _ => rfl) rfl rfl (c_fm_placeSlot w (mO m [] []) c N D (by omega) hT (show KPp (m.1 203) (m.2 8) (m.2 9) (m.1 214) (m.1 215) (m.1 216) (m.1 217) (m.1 221) (m.1 223) (m.1 219) by exact pKP)) (fun rr15 k16 => ?_)
        rcases k16 with ⟨m17, sl, Tm17, Fm17, g18, rfl⟩ | ⟨xx21, m19, hx20, Tm19, Fm19, rfl⟩
        rotate_left
        · skip
          refine Or.inr ⟨_, _, _, _, rfl, ?_⟩
          exact Or.inr ⟨xx21, (mO m19 [] []), (hx20), Tm19, (fr_m (fr_s Fm19 (fr_m fr_0 rfl rfl) rfl rfl) rfl rfl), rfl⟩
        refine Or.inl ⟨_, _, _, _, rfl, ?_⟩
        refine K_nb (st' := [.int (i32 sl)]) rfl ?_
        obtain ⟨g18a, g18b⟩ := g18
        have g22 : (-1) ≤ m17.1 206 ∧ m17.1 206 ≤ 65535 := Tm17.1 206
        have g23 : 0 ≤ m17.1 207 ∧ m17.1 207 ≤ 4001 := Tm17.1 207
        refine T_ret rfl (fun _ => rfl) ?_
        exact Or.inl ⟨(mO m17 [] []), sl, Tm17, (fr_m (fr_s Fm17 (fr_m fr_0 rfl rfl) rfl rfl) rfl rfl), ⟨by omega, by omega⟩, rfl⟩
      · skip
        refine T_ld 41 (.ref 178) rfl (fun _ => rfl) ?_
        refine K_gf 44 (.ref 6) rfl rfl kd_178 rfl rfl rfl ?_
        refine T_ld 46 (.int (i32 6)) rfl (fun _ => rfl) ?_
        refine T_ld 47 (.ref 178) rfl (fun _ => rfl) ?_
        refine K_gf 50 (.ref 6) rfl rfl kd_178 rfl rfl rfl ?_
        refine K_gf 53 (.int (i32 (m.1 207))) rfl rfl kd_6 rfl rfl rfl ?_
        refine T_callx 56 51 [.ref 6, .int (i32 6), .int (i32 (m.1 207))] [] rfl (fun _ => rfl) rfl rfl (c_tx_fail w (mO m [] []) c N D (by omega) hT 6 (m.1 207) ⟨by decide, by decide⟩ (r32 (by omega) (by omega)) (show 1 ≤ (6 : Int) ∧ (6 : Int) ≤ 8 by omega) (show 0 ≤ (m.1 207) ∧ (m.1 207) ≤ 4001 by omega)) (fun rr24 k25 => ?_)
        rcases k25 with ⟨m26, Tm26, Fm26, h27, rfl⟩ | ⟨xx30, m28, hx29, Tm28, Fm28, rfl⟩
        rotate_left
        · skip
          refine Or.inr ⟨_, _, _, _, rfl, ?_⟩
          exact Or.inr ⟨xx30, (mO m28 [] []), (hx29), Tm28, (fr_m (fr_s Fm28 (fr_m fr_0 rfl rfl) rfl rfl) rfl rfl), rfl⟩
        exact h27.elim
  · skip
    refine T_ld 14 (.ref 178) rfl (fun _ => rfl) ?_
    refine K_gf 17 (.ref 6) rfl rfl kd_178 rfl rfl rfl ?_
    refine T_callx 20 76 [.ref 6] [] rfl (fun _ => rfl) rfl rfl (c_tx_refuse w (mO m [] []) c N D (by omega) hT ) (fun rr31 k32 => ?_)
    rcases k32 with ⟨m33, Tm33, Fm33, h34, rfl⟩ | ⟨xx37, m35, hx36, Tm35, Fm35, rfl⟩
    rotate_left
    · skip
      refine Or.inr ⟨_, _, _, _, rfl, ?_⟩
      exact Or.inr ⟨xx37, (mO m35 [] []), (hx36), Tm35, (fr_m (fr_s Fm35 (fr_m fr_0 rfl rfl) rfl rfl) rfl rfl), rfl⟩
    exact h34.elim
def fF_rd_arrayOf : List Nat := [205, 206, 207, 208, 209, 210, 211, 212]
def fA_rd_arrayOf : List Nat := [47]
def Q_rd_arrayOf (m : mR) (c : Nat → Option am_C) (N : Nat) (d : Int) : ag_Re af_T → Prop := fun R => (∃ (M : mR), KTy M ∧ fr fF_rd_arrayOf fA_rd_arrayOf m M ∧ (0 ≤ (M.2 47) d) ∧ (agr (m.2 47) (M.2 47) d) ∧ R = (.inl (none), (khp M c, N), 0, 0)) ∨ (∃ (x : Nat) (M : mR), (x = 0) ∧ (KTy M) ∧ (fr fF_rd_arrayOf fA_rd_arrayOf m M) ∧ R = (.inr x, (khp M c, N), 1, 6))
set_option maxHeartbeats 3000000 in
theorem c_rd_arrayOf (w : wX) (m : mR) (c : Nat → Option am_C) (N D : Nat) (hD : 9 ≤ D) (hT : KTy m) (d : Int) (qd : R32 d) (pKP : KPp (m.1 203) (m.2 8) (m.2 9) (m.1 214) (m.1 215) (m.1 216) (m.1 217) (m.1 221) (m.1 223) (m.1 219)) (p1 : 0 ≤ d ∧ d ≤ 239) (p2 : (m.2 46) d ≤ 219) : TC w D 125 [.ref 178, .int (i32 d)] (khp m c, N) (Q_rd_arrayOf m c N d) := by
  obtain ⟨D, rfl⟩ : ∃ k, D = k + 1 := ⟨D - 1, by omega⟩
  obtain ⟨qda, qdb⟩ := id qd
  have f206 : (-1) ≤ m.1 206 ∧ m.1 206 ≤ 65535 := hT.1 206
  have f207 : 0 ≤ m.1 207 ∧ m.1 207 ≤ 4001 := hT.1 207
  have f203 : 0 ≤ m.1 203 ∧ m.1 203 ≤ 90 := hT.1 203
  have f213 : 0 ≤ m.1 213 ∧ m.1 213 ≤ 1 := hT.1 213
  have f214 : 0 ≤ m.1 214 ∧ m.1 214 ≤ 12 := hT.1 214
  have f215 : 0 ≤ m.1 215 ∧ m.1 215 ≤ 12 := hT.1 215
  have f216 : 0 ≤ m.1 216 ∧ m.1 216 ≤ 16 := hT.1 216
  have f217 : 0 ≤ m.1 217 ∧ m.1 217 ≤ 8 := hT.1 217
  have f219 : 0 ≤ m.1 219 ∧ m.1 219 ≤ 8 := hT.1 219
  have f221 : 0 ≤ m.1 221 ∧ m.1 221 ≤ 16 := hT.1 221
  have f223 : 0 ≤ m.1 223 ∧ m.1 223 ≤ 16 := hT.1 223
  refine Tc_of rfl ?_
  rw [show (khp m c, N) = (khp (mO m [] []) c, N) from by rw [mO_nil m]]
  show TT w D pm_125 (0, [(0, .ref 178), (1, .int (i32 d))], [], (khp (mO m [] []) c, N), 0, 0) (Q_rd_arrayOf m c N d)
  refine T_ld 1 (.ref 178) rfl (fun _ => rfl) ?_
  refine K_gf 4 (.ref 6) rfl rfl kd_178 rfl rfl rfl ?_
  refine K_gf 7 (.int (i32 (m.1 207))) rfl rfl kd_6 rfl rfl rfl ?_
  refine T_sto 8 [(2, .int (i32 (m.1 207))), (0, .ref 178), (1, .int (i32 d))] rfl (fun _ => rfl) ?_
  refine T_ld 9 (.ref 178) rfl (fun _ => rfl) ?_
  refine K_gf 12 (.ref 6) rfl rfl kd_178 rfl rfl rfl ?_
  refine T_ld 15 (.int (i32 303)) rfl (fun _ => rfl) ?_
  refine T_callx 18 83 [.ref 6, .int (i32 303)] [] rfl (fun _ => rfl) rfl rfl (c_tx_known w (mO m [] []) c N D (by omega) hT 303 ⟨by decide, by decide⟩) (fun rr1 k2 => ?_)
  rcases k2 with ⟨m3, kn, Tm3, Fm3, g4, h5, h6, h7, rfl⟩ | ⟨xx10, m8, hx9, Tm8, Fm8, rfl⟩
  rotate_left
  · skip
    refine Or.inr ⟨_, _, _, _, rfl, ?_⟩
    exact Or.inr ⟨xx10, (mO m8 [] []), (hx9), Tm8, (fr_m (fr_s Fm8 (fr_m fr_0 rfl rfl) rfl rfl) rfl rfl), rfl⟩
  refine Or.inl ⟨_, _, _, _, rfl, ?_⟩
  refine K_nb (st' := [.int (i32 kn)]) rfl ?_
  obtain ⟨g4a, g4b⟩ := g4
  have g11 : (-1) ≤ m3.1 206 ∧ m3.1 206 ≤ 65535 := Tm3.1 206
  have g12 : 0 ≤ m3.1 207 ∧ m3.1 207 ≤ 4001 := Tm3.1 207
  replace h5 : KNo (m.1 203) (m.2 8) (m.2 9) (303 : Int) kn := h5
  have hKn := h5
  replace h6 : (m.1 213) = 0 := h6
  replace h7 : (m.1 206) = 256 := h7
  have hkn := KNo_w pKP hKn
  refine T_sto 19 [(3, .int (i32 kn)), (2, .int (i32 (m.1 207))), (0, .ref 178), (1, .int (i32 d))] rfl (fun _ => rfl) ?_
  refine T_ld 20 (.ref 178) rfl (fun _ => rfl) ?_
  refine K_gf 23 (.ref 45) rfl rfl kd_178 rfl rfl rfl ?_
  refine K_gf 26 (.ref 54) rfl rfl kd_45 rfl rfl rfl ?_
  refine T_ld 27 (.int (i32 d)) rfl (fun _ => rfl) ?_
  refine T_ld 28 (.int (i32 kn)) rfl (fun _ => rfl) ?_
  have G13 : ∀ j, (-1) ≤ (upI (m.2 47) d kn) j ∧ (upI (m.2 47) d kn) j ≤ 7 := upI_rg (hT.2.1 47) ⟨by omega, by omega⟩
  refine K_iast (a' := [(47, upI (m.2 47) d kn)]) 29 47 (m.2 47) rfl rfl rfl (by omega) (show d < (240 : Int) by omega) (show (m3.2 47) = (m.2 47) from (fr2 Fm3 47 rfl)) rfl ?_
  refine T_ld 30 (.ref 178) rfl (fun _ => rfl) ?_
  refine K_gf 33 (.ref 45) rfl rfl kd_178 rfl rfl rfl ?_
  refine K_gf 36 (.ref 53) rfl rfl kd_45 rfl rfl rfl ?_
  refine T_ld 37 (.int (i32 d)) rfl (fun _ => rfl) ?_
  refine K_iald 38 46 (m.2 46) rfl rfl rfl (by omega) (show d < (240 : Int) by omega) (show (m3.2 46) = (m.2 46) from (fr2 Fm3 46 rfl)) ?_
  have e14 : (-1) ≤ m.2 46 d ∧ m.2 46 d ≤ 220 := hT.2.1 46 d
  refine T_sto 40 [(4, .int (i32 ((m.2 46) d))), (3, .int (i32 kn)), (2, .int (i32 (m.1 207))), (0, .ref 178), (1, .int (i32 d))] rfl (fun _ => rfl) ?_
  refine T_ld 42 (.int (i32 ((m.2 46) d))) rfl (fun _ => rfl) ?_
  refine T_ld 43 (.int (i32 (-1))) rfl (fun _ => rfl) ?_
  refine T_icmp 77 46 rfl rfl rfl (r32 (by omega) (by omega)) ⟨by decide, by decide⟩ (fun (h15 : (m.2 46) d = (-1)) => ?_) (fun (h15 : ¬ ((m.2 46) d = (-1))) => ?_)
  · skip
    refine T_ret rfl (fun _ => rfl) ?_
    exact Or.inl ⟨(mO m3 [] [(47, upI (m.2 47) d kn)]), (KTy_mO Tm3 rfl rfl trivial ⟨G13, trivial⟩), (fr_m (fr_s Fm3 (fr_m fr_0 rfl rfl) rfl rfl) rfl rfl), (show 0 ≤ (upI (m.2 47) d kn) d by first | (rw [upI_s]; omega) | (exfalso; omega)), (show agr (m.2 47) (upI (m.2 47) d kn) d by first | (exact agr_u (Int.le_refl _)) | (exfalso; omega)), rfl⟩
  · skip
    refine T_ld 47 (.ref 178) rfl (fun _ => rfl) ?_
    refine K_gf 50 (.ref 12) rfl rfl kd_178 rfl rfl rfl ?_
    refine T_ld 52 (.int (i32 ((m.2 46) d))) rfl (fun _ => rfl) ?_
    refine T_callx 55 100 [.ref 12, .int (i32 ((m.2 46) d))] [] rfl (fun _ => rfl) rfl rfl (c_pr_slotWidth w (mO m3 [] [(47, upI (m.2 47) d kn)]) c N D (by omega) (KTy_mO Tm3 rfl rfl trivial ⟨G13, trivial⟩) ((m.2 46) d) (r32 (by omega) (by omega)) (show 0 ≤ ((m.2 46) d) ∧ ((m.2 46) d) ≤ 219 by omega)) (fun rr16 k17 => ?_)
    obtain ⟨x18, g19, rfl⟩ := k17
    refine Or.inl ⟨_, _, _, _, rfl, ?_⟩
    refine T_ns (st' := [.int (i32 x18)]) rfl ?_
    obtain ⟨g19a, g19b⟩ := g19
    refine T_ld 56 (.ref 178) rfl (fun _ => rfl) ?_
    refine K_gf 59 (.ref 12) rfl rfl kd_178 rfl rfl rfl ?_
    refine K_gf 62 (.ref 18) rfl rfl kd_12 rfl rfl rfl ?_
    refine T_ld 63 (.int (i32 kn)) rfl (fun _ => rfl) ?_
    refine K_iald 64 15 (m.2 15) rfl rfl rfl (by omega) (show kn < (8 : Int) by omega) (show (m3.2 15) = (m.2 15) from (fr2 Fm3 15 rfl)) ?_
    have e20 : 0 ≤ m.2 15 kn ∧ m.2 15 kn ≤ 64 := hT.2.1 15 kn
    refine T_icmp 77 67 rfl rfl rfl (r32 (by omega) (by omega)) (r32 (by omega) (by omega)) (fun (h21 : x18 = (m.2 15) kn) => ?_) (fun (h21 : ¬ (x18 = (m.2 15) kn)) => ?_)
    · skip
      refine T_ret rfl (fun _ => rfl) ?_
      exact Or.inl ⟨(mO m3 [] [(47, upI (m.2 47) d kn)]), (KTy_mO Tm3 rfl rfl trivial ⟨G13, trivial⟩), (fr_m (fr_s Fm3 (fr_m fr_0 rfl rfl) rfl rfl) rfl rfl), (show 0 ≤ (upI (m.2 47) d kn) d by first | (rw [upI_s]; omega) | (exfalso; omega)), (show agr (m.2 47) (upI (m.2 47) d kn) d by first | (exact agr_u (Int.le_refl _)) | (exfalso; omega)), rfl⟩
    · skip
      refine T_ld 68 (.ref 178) rfl (fun _ => rfl) ?_
      refine K_gf 71 (.ref 6) rfl rfl kd_178 rfl rfl rfl ?_
      refine T_ld 73 (.int (i32 7)) rfl (fun _ => rfl) ?_
      refine T_ld 74 (.int (i32 (m.1 207))) rfl (fun _ => rfl) ?_
      refine T_callx 77 51 [.ref 6, .int (i32 7), .int (i32 (m.1 207))] [] rfl (fun _ => rfl) rfl rfl (c_tx_fail w (mO m3 [] [(47, upI (m.2 47) d kn)]) c N D (by omega) (KTy_mO Tm3 rfl rfl trivial ⟨G13, trivial⟩) 7 (m.1 207) ⟨by decide, by decide⟩ (r32 (by omega) (by omega)) (show 1 ≤ (7 : Int) ∧ (7 : Int) ≤ 8 by omega) (show 0 ≤ (m.1 207) ∧ (m.1 207) ≤ 4001 by omega)) (fun rr22 k23 => ?_)
      rcases k23 with ⟨m24, Tm24, Fm24, h25, rfl⟩ | ⟨xx28, m26, hx27, Tm26, Fm26, rfl⟩
      rotate_left
      · skip
        refine Or.inr ⟨_, _, _, _, rfl, ?_⟩
        exact Or.inr ⟨xx28, (mO m26 [] []), (hx27), Tm26, (fr_m (fr_s Fm26 (fr_m (fr_s Fm3 (fr_m fr_0 rfl rfl) rfl rfl) rfl rfl) rfl rfl) rfl rfl), rfl⟩
      exact h25.elim
def fF_rd_keyLine : List Nat := [205, 206, 207, 208, 209, 210, 211, 212, 213, 220, 228, 229, 230, 231]
def fA_rd_keyLine : List Nat := [18, 19, 20, 21, 22, 23, 24, 68, 69, 70, 72, 79, 80, 81, 82]
def Q_rd_keyLine (m : mR) (c : Nat → Option am_C) (N : Nat) (t : Int) (i : Int) : ag_Re af_T → Prop := fun R => (∃ (M : mR), KTy M ∧ fr fF_rd_keyLine fA_rd_keyLine m M ∧ (NKp (M.2 18) (M.2 19)) ∧ R = (.inl (none), (khp M c, N), 0, 0)) ∨ (∃ (x : Nat) (M : mR), (x = 0) ∧ (KTy M) ∧ (fr fF_rd_keyLine fA_rd_keyLine m M) ∧ (NKp (M.2 18) (M.2 19)) ∧ R = (.inr x, (khp M c, N), 1, 6))
set_option maxHeartbeats 3000000 in
theorem c_rd_keyLine (w : wX) (m : mR) (c : Nat → Option am_C) (N D : Nat) (hD : 11 ≤ D) (hT : KTy m) (t : Int) (i : Int) (qt : R32 t) (qi : R32 i) (pKP : KPp (m.1 203) (m.2 8) (m.2 9) (m.1 214) (m.1 215) (m.1 216) (m.1 217) (m.1 221) (m.1 223) (m.1 219)) (hNK : NKp (m.2 18) (m.2 19)) (p2 : 0 ≤ t ∧ t ≤ 7) (p3 : 0 ≤ i ∧ i ≤ 4) : TC w D 129 [.ref 178, .ref (tbr t), .int (i32 i)] (khp m c, N) (Q_rd_keyLine m c N t i) := by
  obtain ⟨D, rfl⟩ : ∃ k, D = k + 1 := ⟨D - 1, by omega⟩
  obtain ⟨qta, qtb⟩ := id qt
  obtain ⟨qia, qib⟩ := id qi
  have f206 : (-1) ≤ m.1 206 ∧ m.1 206 ≤ 65535 := hT.1 206
  have f207 : 0 ≤ m.1 207 ∧ m.1 207 ≤ 4001 := hT.1 207
  have f213 : 0 ≤ m.1 213 ∧ m.1 213 ≤ 1 := hT.1 213
  have f220 : 0 ≤ m.1 220 ∧ m.1 220 ≤ 1090 := hT.1 220
  have f203 : 0 ≤ m.1 203 ∧ m.1 203 ≤ 90 := hT.1 203
  have f214 : 0 ≤ m.1 214 ∧ m.1 214 ≤ 12 := hT.1 214
  have f215 : 0 ≤ m.1 215 ∧ m.1 215 ≤ 12 := hT.1 215
  have f216 : 0 ≤ m.1 216 ∧ m.1 216 ≤ 16 := hT.1 216
  have f217 : 0 ≤ m.1 217 ∧ m.1 217 ≤ 8 := hT.1 217
  have f219 : 0 ≤ m.1 219 ∧ m.1 219 ≤ 8 := hT.1 219
  have f221 : 0 ≤ m.1 221 ∧ m.1 221 ≤ 16 := hT.1 221
  have f223 : 0 ≤ m.1 223 ∧ m.1 223 ≤ 16 := hT.1 223
  refine Tc_of rfl ?_
  rw [show (khp m c, N) = (khp (mO m [] []) c, N) from by rw [mO_nil m]]
  show TT w D pm_129 (0, [(0, .ref 178), (1, .ref (tbr t)), (2, .int (i32 i))], [], (khp (mO m [] []) c, N), 0, 0) (Q_rd_keyLine m c N t i)
  refine T_ld 1 (.ref 178) rfl (fun _ => rfl) ?_
  refine K_gf 4 (.ref 6) rfl rfl kd_178 rfl rfl rfl ?_
  refine K_gf 7 (.int (i32 (m.1 206))) rfl rfl kd_6 rfl rfl rfl ?_
  refine T_ld 10 (.int (i32 311)) rfl (fun _ => rfl) ?_
  refine T_icmp 33 13 rfl rfl rfl (r32 (by omega) (by omega)) ⟨by decide, by decide⟩ (fun (h1 : (m.1 206) ≠ 311) => ?_) (fun (h1 : ¬ ((m.1 206) ≠ 311)) => ?_)
  · skip
    refine T_ld 34 (.ref 178) rfl (fun _ => rfl) ?_
    refine K_gf 37 (.ref 6) rfl rfl kd_178 rfl rfl rfl ?_
    refine T_ld 40 (.int (i32 311)) rfl (fun _ => rfl) ?_
    refine T_callx 43 78 [.ref 6, .int (i32 311)] [] rfl (fun _ => rfl) rfl rfl (c_tx_expect w (mO m [] []) c N D (by omega) hT 311 ⟨by decide, by decide⟩) (fun rr2 k3 => ?_)
    rcases k3 with ⟨m4, Tm4, Fm4, h5, h6, rfl⟩ | ⟨xx9, m7, hx8, Tm7, Fm7, rfl⟩
    rotate_left
    · skip
      refine Or.inr ⟨_, _, _, _, rfl, ?_⟩
      exact Or.inr ⟨xx9, (mO m7 [] []), (hx8), Tm7, (fr_m (fr_s Fm7 (fr_m fr_0 rfl rfl) rfl rfl) rfl rfl), (show NKp (m7.2 18) (m7.2 19) by rewrite [(show (m7.2 18) = (m.2 18) from (fr2 Fm7 18 rfl)), (show (m7.2 19) = (m.2 19) from (fr2 Fm7 19 rfl))]; exact hNK), rfl⟩
    refine Or.inl ⟨_, _, _, _, rfl, ?_⟩
    refine K_nb (st' := []) rfl ?_
    have g10 : (-1) ≤ m4.1 206 ∧ m4.1 206 ≤ 65535 := Tm4.1 206
    have g11 : 0 ≤ m4.1 207 ∧ m4.1 207 ≤ 4001 := Tm4.1 207
    replace h5 : (m.1 206) = (311 : Int) := h5
    replace h6 : (m.1 213) = 0 := h6
    refine T_ld 44 (.ref (tbr t)) rfl (fun _ => rfl) ?_
    refine K_gfr 47 rfl rfl (by omega) (by omega) rfl ?_
    refine T_ld 48 (.int (i32 i)) rfl (fun _ => rfl) ?_
    refine T_ld 49 (.ref 178) rfl (fun _ => rfl) ?_
    refine K_gf 52 (.ref 12) rfl rfl kd_178 rfl rfl rfl ?_
    refine K_gf 55 (.ref 22) rfl rfl kd_12 rfl rfl rfl ?_
    refine K_gf 58 (.int (i32 (m.1 220))) rfl rfl kd_22 rfl (kval_c2 (k := 220) (F := fun x => .int (i32 x)) rfl (show (m4.1 220) = (m.1 220) from (fr1 Fm4 220 rfl))) rfl ?_
    have G12 : ∀ j, 0 ≤ (upI (m.2 79) (65536 * t + i) (m.1 220)) j ∧ (upI (m.2 79) (65536 * t + i) (m.1 220)) j ≤ 1090 := upI_rg (hT.2.1 79) ⟨by omega, by omega⟩
    refine K_iastt (a' := [(79, upI (m.2 79) (65536 * t + i) (m.1 220))]) 59 0 (m.2 79) rfl rfl rfl (by omega) (by omega) (by omega) (show i < (4 : Int) by omega) (show (m4.2 79) = (m.2 79) from (fr2 Fm4 79 rfl)) rfl ?_
    refine T_ld 60 (.ref 178) rfl (fun _ => rfl) ?_
    refine K_gf 63 (.ref 181) rfl rfl kd_178 rfl rfl rfl ?_
    refine T_ld 64 (.int (i32 (-1))) rfl (fun _ => rfl) ?_
    refine T_callx 67 92 [.ref 181, .int (i32 (-1))] [] rfl (fun _ => rfl) rfl rfl (c_fm_whole w (mO m4 [] [(79, upI (m.2 79) (65536 * t + i) (m.1 220))]) c N D (by omega) (KTy_mO Tm4 rfl rfl trivial ⟨G12, trivial⟩) (-1) ⟨by decide, by decide⟩ (show NKp (m4.2 18) (m4.2 19) by rewrite [(show (m4.2 18) = (m.2 18) from (fr2 Fm4 18 rfl)), (show (m4.2 19) = (m.2 19) from (fr2 Fm4 19 rfl))]; exact hNK) (show KPp (m4.1 203) (m4.2 8) (m4.2 9) (m4.1 214) (m4.1 215) (m4.1 216) (m4.1 217) (m4.1 221) (m4.1 223) (m4.1 219) by rewrite [(show (m4.1 203) = (m.1 203) from (fr1 Fm4 203 rfl)), (show (m4.2 8) = (m.2 8) from (fr2 Fm4 8 rfl)), (show (m4.2 9) = (m.2 9) from (fr2 Fm4 9 rfl)), (show (m4.1 214) = (m.1 214) from (fr1 Fm4 214 rfl)), (show (m4.1 215) = (m.1 215) from (fr1 Fm4 215 rfl)), (show (m4.1 216) = (m.1 216) from (fr1 Fm4 216 rfl)), (show (m4.1 217) = (m.1 217) from (fr1 Fm4 217 rfl)), (show (m4.1 221) = (m.1 221) from (fr1 Fm4 221 rfl)), (show (m4.1 223) = (m.1 223) from (fr1 Fm4 223 rfl)), (show (m4.1 219) = (m.1 219) from (fr1 Fm4 219 rfl))]; exact pKP) (show (-1) ≤ (-1 : Int) ∧ (-1 : Int) ≤ 15 by omega)) (fun rr13 k14 => ?_)
    rcases k14 with ⟨m15, ro, Tm15, Fm15, g16, h17, rfl⟩ | ⟨xx21, m18, hx19, Tm18, Fm18, h20, rfl⟩
    rotate_left
    · skip
      refine Or.inr ⟨_, _, _, _, rfl, ?_⟩
      have hNK := h20
      exact Or.inr ⟨xx21, (mO m18 [] []), (hx19), Tm18, (fr_m (fr_s Fm18 (fr_m (fr_s Fm4 (fr_m fr_0 rfl rfl) rfl rfl) rfl rfl) rfl rfl) rfl rfl), (show NKp (m18.2 18) (m18.2 19) by exact hNK), rfl⟩
    refine Or.inl ⟨_, _, _, _, rfl, ?_⟩
    refine K_nb (st' := [.int (i32 ro)]) rfl ?_
    obtain ⟨g16a, g16b⟩ := g16
    have g22 : (-1) ≤ m15.1 206 ∧ m15.1 206 ≤ 65535 := Tm15.1 206
    have g23 : 0 ≤ m15.1 207 ∧ m15.1 207 ≤ 4001 := Tm15.1 207
    have g24 : 0 ≤ m15.1 213 ∧ m15.1 213 ≤ 1 := Tm15.1 213
    have g25 : 0 ≤ m15.1 220 ∧ m15.1 220 ≤ 1090 := Tm15.1 220
    replace h17 : NKp (m15.2 18) (m15.2 19) := h17
    have hNK := h17
    refine T_sto 68 [(3, .int (i32 ro)), (0, .ref 178), (1, .ref (tbr t)), (2, .int (i32 i))] rfl (fun _ => rfl) ?_
    refine T_ld 69 (.ref (tbr t)) rfl (fun _ => rfl) ?_
    refine K_gfr 72 rfl rfl (by omega) (by omega) rfl ?_
    refine T_ld 73 (.int (i32 i)) rfl (fun _ => rfl) ?_
    refine T_ld 74 (.int (i32 ro)) rfl (fun _ => rfl) ?_
    have G26 : ∀ j, 0 ≤ (upI (m.2 80) (65536 * t + i) ro) j ∧ (upI (m.2 80) (65536 * t + i) ro) j ≤ 1089 := upI_rg (hT.2.1 80) ⟨by omega, by omega⟩
    refine K_iastt (a' := [(80, upI (m.2 80) (65536 * t + i) ro)]) 75 1 (m.2 80) rfl rfl rfl (by omega) (by omega) (by omega) (show i < (4 : Int) by omega) (show (m15.2 80) = (m.2 80) from ((fr2 Fm15 80 rfl).trans (fr2 Fm4 80 rfl))) rfl ?_
    refine T_ld 76 (.ref (tbr t)) rfl (fun _ => rfl) ?_
    refine K_gfr 79 rfl rfl (by omega) (by omega) rfl ?_
    refine T_ld 80 (.int (i32 i)) rfl (fun _ => rfl) ?_
    refine T_ld 81 (.ref 178) rfl (fun _ => rfl) ?_
    refine K_gf 84 (.ref 12) rfl rfl kd_178 rfl rfl rfl ?_
    refine K_gf 87 (.ref 22) rfl rfl kd_12 rfl rfl rfl ?_
    refine K_gf 90 (.ref 27) rfl rfl kd_22 rfl rfl rfl ?_
    refine T_ld 91 (.int (i32 ro)) rfl (fun _ => rfl) ?_
    refine K_iald 92 22 (m15.2 22) rfl rfl rfl (by omega) (show ro < (1090 : Int) by omega) rfl ?_
    have e27 : 0 ≤ (m15.2 22) ro ∧ (m15.2 22) ro ≤ 64 := (Tm15.2.1 22) ro
    have G28 : ∀ j, 0 ≤ (upI (m.2 82) (65536 * t + i) ((m15.2 22) ro)) j ∧ (upI (m.2 82) (65536 * t + i) ((m15.2 22) ro)) j ≤ 64 := upI_rg (hT.2.1 82) ⟨by omega, by omega⟩
    refine K_iastt (a' := [(80, upI (m.2 80) (65536 * t + i) ro), (82, upI (m.2 82) (65536 * t + i) ((m15.2 22) ro))]) 93 3 (m.2 82) rfl rfl rfl (by omega) (by omega) (by omega) (show i < (4 : Int) by omega) (show (m15.2 82) = (m.2 82) from ((fr2 Fm15 82 rfl).trans (fr2 Fm4 82 rfl))) rfl ?_
    refine T_ld 94 (.ref 178) rfl (fun _ => rfl) ?_
    refine K_gf 97 (.ref 6) rfl rfl kd_178 rfl rfl rfl ?_
    refine T_ld 99 (.int (i32 58)) rfl (fun _ => rfl) ?_
    refine T_callx 102 78 [.ref 6, .int (i32 58)] [] rfl (fun _ => rfl) rfl rfl (c_tx_expect w (mO m15 [] [(80, upI (m.2 80) (65536 * t + i) ro), (82, upI (m.2 82) (65536 * t + i) ((m15.2 22) ro))]) c N D (by omega) (KTy_mO Tm15 rfl rfl trivial ⟨G26, G28, trivial⟩) 58 ⟨by decide, by decide⟩) (fun rr29 k30 => ?_)
    rcases k30 with ⟨m31, Tm31, Fm31, h32, h33, rfl⟩ | ⟨xx36, m34, hx35, Tm34, Fm34, rfl⟩
    rotate_left
    · skip
      refine Or.inr ⟨_, _, _, _, rfl, ?_⟩
      exact Or.inr ⟨xx36, (mO m34 [] []), (hx35), Tm34, (fr_m (fr_s Fm34 (fr_m (fr_s Fm15 (fr_m (fr_s Fm4 (fr_m fr_0 rfl rfl) rfl rfl) rfl rfl) rfl rfl) rfl rfl) rfl rfl) rfl rfl), (show NKp (m34.2 18) (m34.2 19) by rewrite [(show (m34.2 18) = (m15.2 18) from (fr2 Fm34 18 rfl)), (show (m34.2 19) = (m15.2 19) from (fr2 Fm34 19 rfl))]; exact hNK), rfl⟩
    refine Or.inl ⟨_, _, _, _, rfl, ?_⟩
    refine K_nb (st' := []) rfl ?_
    have g37 : (-1) ≤ m31.1 206 ∧ m31.1 206 ≤ 65535 := Tm31.1 206
    have g38 : 0 ≤ m31.1 207 ∧ m31.1 207 ≤ 4001 := Tm31.1 207
    replace h32 : (m15.1 206) = (58 : Int) := h32
    replace h33 : (m15.1 213) = 0 := h33
    refine T_ld 103 (.ref 178) rfl (fun _ => rfl) ?_
    refine K_gf 106 (.ref 6) rfl rfl kd_178 rfl rfl rfl ?_
    refine K_gf 109 (.int (i32 (m31.1 206))) rfl rfl kd_6 rfl rfl rfl ?_
    refine T_sto 111 [(4, .int (i32 (m31.1 206))), (3, .int (i32 ro)), (0, .ref 178), (1, .ref (tbr t)), (2, .int (i32 i))] rfl (fun _ => rfl) ?_
    refine T_ld 112 (.ref 178) rfl (fun _ => rfl) ?_
    refine K_gf 115 (.ref 6) rfl rfl kd_178 rfl rfl rfl ?_
    refine K_gf 118 (.int (i32 (m31.1 207))) rfl rfl kd_6 rfl rfl rfl ?_
    refine T_sto 120 [(5, .int (i32 (m31.1 207))), (4, .int (i32 (m31.1 206))), (3, .int (i32 ro)), (0, .ref 178), (1, .ref (tbr t)), (2, .int (i32 i))] rfl (fun _ => rfl) ?_
    refine T_ld 122 (.int (i32 (m31.1 206))) rfl (fun _ => rfl) ?_
    refine T_ld 125 (.int (i32 312)) rfl (fun _ => rfl) ?_
    refine T_icmp 151 128 rfl rfl rfl (r32 (by omega) (by omega)) ⟨by decide, by decide⟩ (fun (h39 : (m31.1 206) = 312) => ?_) (fun (h39 : ¬ ((m31.1 206) = 312)) => ?_)
    · skip
      refine T_ld 152 (.ref 178) rfl (fun _ => rfl) ?_
      refine K_gf 155 (.ref 6) rfl rfl kd_178 rfl rfl rfl ?_
      refine T_callx 158 50 [.ref 6] [] rfl (fun _ => rfl) rfl rfl (c_tx_advance w (mO m31 [] []) c N D (by omega) Tm31 ) (fun rr40 k41 => ?_)
      rcases k41 with ⟨m42, Tm42, Fm42, h43, rfl⟩ | ⟨xx46, m44, hx45, Tm44, Fm44, rfl⟩
      rotate_left
      · skip
        refine Or.inr ⟨_, _, _, _, rfl, ?_⟩
        exact Or.inr ⟨xx46, (mO m44 [] []), (hx45), Tm44, (fr_m (fr_s Fm44 (fr_m (fr_s Fm31 (fr_m (fr_s Fm15 (fr_m (fr_s Fm4 (fr_m fr_0 rfl rfl) rfl rfl) rfl rfl) rfl rfl) rfl rfl) rfl rfl) rfl rfl) rfl rfl) rfl rfl), (show NKp (m44.2 18) (m44.2 19) by rewrite [(show (m44.2 18) = (m15.2 18) from ((fr2 Fm44 18 rfl).trans (fr2 Fm31 18 rfl))), (show (m44.2 19) = (m15.2 19) from ((fr2 Fm44 19 rfl).trans (fr2 Fm31 19 rfl)))]; exact hNK), rfl⟩
      refine Or.inl ⟨_, _, _, _, rfl, ?_⟩
      refine K_nb (st' := []) rfl ?_
      have g47 : (-1) ≤ m42.1 206 ∧ m42.1 206 ≤ 65535 := Tm42.1 206
      have g48 : 0 ≤ m42.1 207 ∧ m42.1 207 ≤ 4001 := Tm42.1 207
      replace h43 : (m31.1 213) = 0 := h43
      rewrite [(show (m31.1 213) = (m15.1 213) from (fr1 Fm31 213 rfl))] at h43
      refine T_ld 160 (.int (i32 (m31.1 206))) rfl (fun _ => rfl) ?_
      refine T_ld 163 (.int (i32 312)) rfl (fun _ => rfl) ?_
      refine T_icmp 176 166 rfl rfl rfl (r32 (by omega) (by omega)) ⟨by decide, by decide⟩ (fun (h49 : (m31.1 206) = 312) => ?_) (fun (h49 : ¬ ((m31.1 206) = 312)) => by exfalso; omega)
      refine T_ld 178 (.int (i32 (m31.1 206))) rfl (fun _ => rfl) ?_
      refine T_ld 181 (.int (i32 313)) rfl (fun _ => rfl) ?_
      refine T_icmp 198 184 rfl rfl rfl (r32 (by omega) (by omega)) ⟨by decide, by decide⟩ (fun (h50 : (m31.1 206) ≠ 313) => ?_) (fun (h50 : ¬ ((m31.1 206) ≠ 313)) => by exfalso; omega)
      refine T_ld 199 (.int (i32 0)) rfl (fun _ => rfl) ?_
      refine T_sto 201 [(6, .int (i32 0)), (5, .int (i32 (m31.1 207))), (4, .int (i32 (m31.1 206))), (3, .int (i32 ro)), (0, .ref 178), (1, .ref (tbr t)), (2, .int (i32 i))] rfl (fun _ => rfl) ?_
      refine T_ld 203 (.int (i32 0)) rfl (fun _ => rfl) ?_
      refine T_if 217 206 rfl rfl rfl ⟨by decide, by decide⟩ (fun _ => ?_) (fun h51 => absurd (show (0 : Int) = 0 by decide) h51)
      refine T_ld 218 (.ref (tbr t)) rfl (fun _ => rfl) ?_
      refine K_gfr 221 rfl rfl (by omega) (by omega) rfl ?_
      refine T_ld 222 (.int (i32 i)) rfl (fun _ => rfl) ?_
      refine T_ld 224 (.int (i32 (m31.1 206))) rfl (fun _ => rfl) ?_
      have G52 : ∀ j, 0 ≤ (upI (m.2 81) (65536 * t + i) (m31.1 206)) j ∧ (upI (m.2 81) (65536 * t + i) (m31.1 206)) j ≤ 330 := upI_rg (hT.2.1 81) ⟨by omega, by omega⟩
      refine K_iastt (a' := [(81, upI (m.2 81) (65536 * t + i) (m31.1 206))]) 225 2 (m.2 81) rfl rfl rfl (by omega) (by omega) (by omega) (show i < (4 : Int) by omega) (show (m42.2 81) = (m.2 81) from ((fr2 Fm42 81 rfl).trans ((fr2 Fm31 81 rfl).trans ((fr2 Fm15 81 rfl).trans (fr2 Fm4 81 rfl))))) rfl ?_
      refine T_ld 226 (.ref (tbr t)) rfl (fun _ => rfl) ?_
      refine T_ld 227 (.int (i32 i)) rfl (fun _ => rfl) ?_
      refine T_ld 228 (.int (i32 1)) rfl (fun _ => rfl) ?_
      refine T_iadd 229 rfl rfl ?_
      have G53 : ∀ j, 0 ≤ (upI (m.2 72) t (i + 1)) j ∧ (upI (m.2 72) t (i + 1)) j ≤ 4 := upI_rg (hT.2.1 72) ⟨by omega, by omega⟩
      refine K_pfi (a' := [(72, upI (m.2 72) t (i + 1)), (81, upI (m.2 81) (65536 * t + i) (m31.1 206))]) 232 72 (m.2 72) rfl rfl rfl (by omega) (by omega) (show (m42.2 72) = (m.2 72) from ((fr2 Fm42 72 rfl).trans ((fr2 Fm31 72 rfl).trans ((fr2 Fm15 72 rfl).trans (fr2 Fm4 72 rfl))))) rfl rfl ?_
      refine T_ld 233 (.ref 178) rfl (fun _ => rfl) ?_
      refine K_gf 236 (.ref 6) rfl rfl kd_178 rfl rfl rfl ?_
      refine T_ld 238 (.int (i32 59)) rfl (fun _ => rfl) ?_
      refine T_callx 241 78 [.ref 6, .int (i32 59)] [] rfl (fun _ => rfl) rfl rfl (c_tx_expect w (mO m42 [] [(72, upI (m.2 72) t (i + 1)), (81, upI (m.2 81) (65536 * t + i) (m31.1 206))]) c N D (by omega) (KTy_mO Tm42 rfl rfl trivial ⟨G53, G52, trivial⟩) 59 ⟨by decide, by decide⟩) (fun rr54 k55 => ?_)
      rcases k55 with ⟨m56, Tm56, Fm56, h57, h58, rfl⟩ | ⟨xx61, m59, hx60, Tm59, Fm59, rfl⟩
      rotate_left
      · skip
        refine Or.inr ⟨_, _, _, _, rfl, ?_⟩
        exact Or.inr ⟨xx61, (mO m59 [] []), (hx60), Tm59, (fr_m (fr_s Fm59 (fr_m (fr_s Fm42 (fr_m (fr_s Fm31 (fr_m (fr_s Fm15 (fr_m (fr_s Fm4 (fr_m fr_0 rfl rfl) rfl rfl) rfl rfl) rfl rfl) rfl rfl) rfl rfl) rfl rfl) rfl rfl) rfl rfl) rfl rfl) rfl rfl), (show NKp (m59.2 18) (m59.2 19) by rewrite [(show (m59.2 18) = (m15.2 18) from ((fr2 Fm59 18 rfl).trans ((fr2 Fm42 18 rfl).trans (fr2 Fm31 18 rfl)))), (show (m59.2 19) = (m15.2 19) from ((fr2 Fm59 19 rfl).trans ((fr2 Fm42 19 rfl).trans (fr2 Fm31 19 rfl))))]; exact hNK), rfl⟩
      refine Or.inl ⟨_, _, _, _, rfl, ?_⟩
      refine K_nb (st' := []) rfl ?_
      have g62 : (-1) ≤ m56.1 206 ∧ m56.1 206 ≤ 65535 := Tm56.1 206
      have g63 : 0 ≤ m56.1 207 ∧ m56.1 207 ≤ 4001 := Tm56.1 207
      replace h57 : (m42.1 206) = (59 : Int) := h57
      replace h58 : (m42.1 213) = 0 := h58
      rewrite [(show (m42.1 213) = (m15.1 213) from ((fr1 Fm42 213 rfl).trans (fr1 Fm31 213 rfl)))] at h58
      refine T_ret rfl (fun _ => rfl) ?_
      exact Or.inl ⟨(mO m56 [] []), Tm56, (fr_m (fr_s Fm56 (fr_m (fr_s Fm42 (fr_m (fr_s Fm31 (fr_m (fr_s Fm15 (fr_m (fr_s Fm4 (fr_m fr_0 rfl rfl) rfl rfl) rfl rfl) rfl rfl) rfl rfl) rfl rfl) rfl rfl) rfl rfl) rfl rfl) rfl rfl) rfl rfl), (show NKp (m56.2 18) (m56.2 19) by rewrite [(show (m56.2 18) = (m15.2 18) from ((fr2 Fm56 18 rfl).trans ((fr2 Fm42 18 rfl).trans (fr2 Fm31 18 rfl)))), (show (m56.2 19) = (m15.2 19) from ((fr2 Fm56 19 rfl).trans ((fr2 Fm42 19 rfl).trans (fr2 Fm31 19 rfl))))]; first | (exact hNK) | (exfalso; omega)), rfl⟩
    · skip
      refine T_ld 130 (.int (i32 (m31.1 206))) rfl (fun _ => rfl) ?_
      refine T_ld 133 (.int (i32 313)) rfl (fun _ => rfl) ?_
      refine T_icmp 151 136 rfl rfl rfl (r32 (by omega) (by omega)) ⟨by decide, by decide⟩ (fun (h64 : (m31.1 206) = 313) => ?_) (fun (h64 : ¬ ((m31.1 206) = 313)) => ?_)
      · skip
        refine T_ld 152 (.ref 178) rfl (fun _ => rfl) ?_
        refine K_gf 155 (.ref 6) rfl rfl kd_178 rfl rfl rfl ?_
        refine T_callx 158 50 [.ref 6] [] rfl (fun _ => rfl) rfl rfl (c_tx_advance w (mO m31 [] []) c N D (by omega) Tm31 ) (fun rr65 k66 => ?_)
        rcases k66 with ⟨m67, Tm67, Fm67, h68, rfl⟩ | ⟨xx71, m69, hx70, Tm69, Fm69, rfl⟩
        rotate_left
        · skip
          refine Or.inr ⟨_, _, _, _, rfl, ?_⟩
          exact Or.inr ⟨xx71, (mO m69 [] []), (hx70), Tm69, (fr_m (fr_s Fm69 (fr_m (fr_s Fm31 (fr_m (fr_s Fm15 (fr_m (fr_s Fm4 (fr_m fr_0 rfl rfl) rfl rfl) rfl rfl) rfl rfl) rfl rfl) rfl rfl) rfl rfl) rfl rfl) rfl rfl), (show NKp (m69.2 18) (m69.2 19) by rewrite [(show (m69.2 18) = (m15.2 18) from ((fr2 Fm69 18 rfl).trans (fr2 Fm31 18 rfl))), (show (m69.2 19) = (m15.2 19) from ((fr2 Fm69 19 rfl).trans (fr2 Fm31 19 rfl)))]; exact hNK), rfl⟩
        refine Or.inl ⟨_, _, _, _, rfl, ?_⟩
        refine K_nb (st' := []) rfl ?_
        have g72 : (-1) ≤ m67.1 206 ∧ m67.1 206 ≤ 65535 := Tm67.1 206
        have g73 : 0 ≤ m67.1 207 ∧ m67.1 207 ≤ 4001 := Tm67.1 207
        replace h68 : (m31.1 213) = 0 := h68
        rewrite [(show (m31.1 213) = (m15.1 213) from (fr1 Fm31 213 rfl))] at h68
        refine T_ld 160 (.int (i32 (m31.1 206))) rfl (fun _ => rfl) ?_
        refine T_ld 163 (.int (i32 312)) rfl (fun _ => rfl) ?_
        refine T_icmp 176 166 rfl rfl rfl (r32 (by omega) (by omega)) ⟨by decide, by decide⟩ (fun (h74 : (m31.1 206) = 312) => by exfalso; omega) (fun (h74 : ¬ ((m31.1 206) = 312)) => ?_)
        refine T_ld 167 (.ref (tbr t)) rfl (fun _ => rfl) ?_
        refine T_ld 170 (.int (i32 313)) rfl (fun _ => rfl) ?_
        refine T_callx 173 130 [.ref (tbr t), .int (i32 313)] [] rfl (inv_vt (args := [.int (i32 313)]) (khp_t0 _ (by omega) (by omega)) rfl rfl rfl) rfl rfl (c_tb_hasKey w (mO m67 [] []) c N D (by omega) Tm67 t 313 (r32 (by omega) (by omega)) ⟨by decide, by decide⟩ (show 0 ≤ t ∧ t ≤ 7 by omega)) (fun rr75 k76 => ?_)
        obtain ⟨x77, g78, rfl⟩ := k76
        refine Or.inl ⟨_, _, _, _, rfl, ?_⟩
        refine T_ns (st' := [.int (i32 x77)]) rfl ?_
        obtain ⟨g78a, g78b⟩ := g78
        refine T_if 194 176 rfl rfl rfl (r32 (by omega) (by omega)) (fun (h79 : x77 ≠ 0) => ?_) (fun (h79 : ¬ (x77 ≠ 0)) => ?_)
        · skip
          refine T_ld 195 (.int (i32 1)) rfl (fun _ => rfl) ?_
          refine T_goto 199 rfl (fun _ => rfl) ?_
          refine T_sto 201 [(6, .int (i32 1)), (5, .int (i32 (m31.1 207))), (4, .int (i32 (m31.1 206))), (3, .int (i32 ro)), (0, .ref 178), (1, .ref (tbr t)), (2, .int (i32 i))] rfl (fun _ => rfl) ?_
          refine T_ld 203 (.int (i32 1)) rfl (fun _ => rfl) ?_
          refine T_if 217 206 rfl rfl rfl ⟨by decide, by decide⟩ (fun h80 => absurd (show (1 : Int) = 0 from h80) (by decide)) (fun _ => ?_)
          refine T_ld 207 (.ref 178) rfl (fun _ => rfl) ?_
          refine K_gf 210 (.ref 6) rfl rfl kd_178 rfl rfl rfl ?_
          refine T_ld 212 (.int (i32 8)) rfl (fun _ => rfl) ?_
          refine T_ld 214 (.int (i32 (m31.1 207))) rfl (fun _ => rfl) ?_
          refine T_callx 217 51 [.ref 6, .int (i32 8), .int (i32 (m31.1 207))] [] rfl (fun _ => rfl) rfl rfl (c_tx_fail w (mO m67 [] []) c N D (by omega) Tm67 8 (m31.1 207) ⟨by decide, by decide⟩ (r32 (by omega) (by omega)) (show 1 ≤ (8 : Int) ∧ (8 : Int) ≤ 8 by omega) (show 0 ≤ (m31.1 207) ∧ (m31.1 207) ≤ 4001 by omega)) (fun rr81 k82 => ?_)
          rcases k82 with ⟨m83, Tm83, Fm83, h84, rfl⟩ | ⟨xx87, m85, hx86, Tm85, Fm85, rfl⟩
          rotate_left
          · skip
            refine Or.inr ⟨_, _, _, _, rfl, ?_⟩
            exact Or.inr ⟨xx87, (mO m85 [] []), (hx86), Tm85, (fr_m (fr_s Fm85 (fr_m (fr_s Fm67 (fr_m (fr_s Fm31 (fr_m (fr_s Fm15 (fr_m (fr_s Fm4 (fr_m fr_0 rfl rfl) rfl rfl) rfl rfl) rfl rfl) rfl rfl) rfl rfl) rfl rfl) rfl rfl) rfl rfl) rfl rfl) rfl rfl), (show NKp (m85.2 18) (m85.2 19) by rewrite [(show (m85.2 18) = (m15.2 18) from ((fr2 Fm85 18 rfl).trans ((fr2 Fm67 18 rfl).trans (fr2 Fm31 18 rfl)))), (show (m85.2 19) = (m15.2 19) from ((fr2 Fm85 19 rfl).trans ((fr2 Fm67 19 rfl).trans (fr2 Fm31 19 rfl))))]; exact hNK), rfl⟩
          exact h84.elim
        · skip
          refine T_ld 178 (.int (i32 (m31.1 206))) rfl (fun _ => rfl) ?_
          refine T_ld 181 (.int (i32 313)) rfl (fun _ => rfl) ?_
          refine T_icmp 198 184 rfl rfl rfl (r32 (by omega) (by omega)) ⟨by decide, by decide⟩ (fun (h88 : (m31.1 206) ≠ 313) => by exfalso; omega) (fun (h88 : ¬ ((m31.1 206) ≠ 313)) => ?_)
          refine T_ld 185 (.ref (tbr t)) rfl (fun _ => rfl) ?_
          refine T_ld 188 (.int (i32 314)) rfl (fun _ => rfl) ?_
          refine T_callx 191 130 [.ref (tbr t), .int (i32 314)] [] rfl (inv_vt (args := [.int (i32 314)]) (khp_t0 _ (by omega) (by omega)) rfl rfl rfl) rfl rfl (c_tb_hasKey w (mO m67 [] []) c N D (by omega) Tm67 t 314 (r32 (by omega) (by omega)) ⟨by decide, by decide⟩ (show 0 ≤ t ∧ t ≤ 7 by omega)) (fun rr89 k90 => ?_)
          obtain ⟨x91, g92, rfl⟩ := k90
          refine Or.inl ⟨_, _, _, _, rfl, ?_⟩
          refine T_ns (st' := [.int (i32 x91)]) rfl ?_
          obtain ⟨g92a, g92b⟩ := g92
          refine T_if 198 194 rfl rfl rfl (r32 (by omega) (by omega)) (fun (h93 : x91 = 0) => ?_) (fun (h93 : ¬ (x91 = 0)) => ?_)
          · skip
            refine T_ld 199 (.int (i32 0)) rfl (fun _ => rfl) ?_
            refine T_sto 201 [(6, .int (i32 0)), (5, .int (i32 (m31.1 207))), (4, .int (i32 (m31.1 206))), (3, .int (i32 ro)), (0, .ref 178), (1, .ref (tbr t)), (2, .int (i32 i))] rfl (fun _ => rfl) ?_
            refine T_ld 203 (.int (i32 0)) rfl (fun _ => rfl) ?_
            refine T_if 217 206 rfl rfl rfl ⟨by decide, by decide⟩ (fun _ => ?_) (fun h94 => absurd (show (0 : Int) = 0 by decide) h94)
            refine T_ld 218 (.ref (tbr t)) rfl (fun _ => rfl) ?_
            refine K_gfr 221 rfl rfl (by omega) (by omega) rfl ?_
            refine T_ld 222 (.int (i32 i)) rfl (fun _ => rfl) ?_
            refine T_ld 224 (.int (i32 (m31.1 206))) rfl (fun _ => rfl) ?_
            have G95 : ∀ j, 0 ≤ (upI (m.2 81) (65536 * t + i) (m31.1 206)) j ∧ (upI (m.2 81) (65536 * t + i) (m31.1 206)) j ≤ 330 := upI_rg (hT.2.1 81) ⟨by omega, by omega⟩
            refine K_iastt (a' := [(81, upI (m.2 81) (65536 * t + i) (m31.1 206))]) 225 2 (m.2 81) rfl rfl rfl (by omega) (by omega) (by omega) (show i < (4 : Int) by omega) (show (m67.2 81) = (m.2 81) from ((fr2 Fm67 81 rfl).trans ((fr2 Fm31 81 rfl).trans ((fr2 Fm15 81 rfl).trans (fr2 Fm4 81 rfl))))) rfl ?_
            refine T_ld 226 (.ref (tbr t)) rfl (fun _ => rfl) ?_
            refine T_ld 227 (.int (i32 i)) rfl (fun _ => rfl) ?_
            refine T_ld 228 (.int (i32 1)) rfl (fun _ => rfl) ?_
            refine T_iadd 229 rfl rfl ?_
            have G96 : ∀ j, 0 ≤ (upI (m.2 72) t (i + 1)) j ∧ (upI (m.2 72) t (i + 1)) j ≤ 4 := upI_rg (hT.2.1 72) ⟨by omega, by omega⟩
            refine K_pfi (a' := [(72, upI (m.2 72) t (i + 1)), (81, upI (m.2 81) (65536 * t + i) (m31.1 206))]) 232 72 (m.2 72) rfl rfl rfl (by omega) (by omega) (show (m67.2 72) = (m.2 72) from ((fr2 Fm67 72 rfl).trans ((fr2 Fm31 72 rfl).trans ((fr2 Fm15 72 rfl).trans (fr2 Fm4 72 rfl))))) rfl rfl ?_
            refine T_ld 233 (.ref 178) rfl (fun _ => rfl) ?_
            refine K_gf 236 (.ref 6) rfl rfl kd_178 rfl rfl rfl ?_
            refine T_ld 238 (.int (i32 59)) rfl (fun _ => rfl) ?_
            refine T_callx 241 78 [.ref 6, .int (i32 59)] [] rfl (fun _ => rfl) rfl rfl (c_tx_expect w (mO m67 [] [(72, upI (m.2 72) t (i + 1)), (81, upI (m.2 81) (65536 * t + i) (m31.1 206))]) c N D (by omega) (KTy_mO Tm67 rfl rfl trivial ⟨G96, G95, trivial⟩) 59 ⟨by decide, by decide⟩) (fun rr97 k98 => ?_)
            rcases k98 with ⟨m99, Tm99, Fm99, h100, h101, rfl⟩ | ⟨xx104, m102, hx103, Tm102, Fm102, rfl⟩
            rotate_left
            · skip
              refine Or.inr ⟨_, _, _, _, rfl, ?_⟩
              exact Or.inr ⟨xx104, (mO m102 [] []), (hx103), Tm102, (fr_m (fr_s Fm102 (fr_m (fr_s Fm67 (fr_m (fr_s Fm31 (fr_m (fr_s Fm15 (fr_m (fr_s Fm4 (fr_m fr_0 rfl rfl) rfl rfl) rfl rfl) rfl rfl) rfl rfl) rfl rfl) rfl rfl) rfl rfl) rfl rfl) rfl rfl) rfl rfl), (show NKp (m102.2 18) (m102.2 19) by rewrite [(show (m102.2 18) = (m15.2 18) from ((fr2 Fm102 18 rfl).trans ((fr2 Fm67 18 rfl).trans (fr2 Fm31 18 rfl)))), (show (m102.2 19) = (m15.2 19) from ((fr2 Fm102 19 rfl).trans ((fr2 Fm67 19 rfl).trans (fr2 Fm31 19 rfl))))]; exact hNK), rfl⟩
            refine Or.inl ⟨_, _, _, _, rfl, ?_⟩
            refine K_nb (st' := []) rfl ?_
            have g105 : (-1) ≤ m99.1 206 ∧ m99.1 206 ≤ 65535 := Tm99.1 206
            have g106 : 0 ≤ m99.1 207 ∧ m99.1 207 ≤ 4001 := Tm99.1 207
            replace h100 : (m67.1 206) = (59 : Int) := h100
            replace h101 : (m67.1 213) = 0 := h101
            rewrite [(show (m67.1 213) = (m15.1 213) from ((fr1 Fm67 213 rfl).trans (fr1 Fm31 213 rfl)))] at h101
            refine T_ret rfl (fun _ => rfl) ?_
            exact Or.inl ⟨(mO m99 [] []), Tm99, (fr_m (fr_s Fm99 (fr_m (fr_s Fm67 (fr_m (fr_s Fm31 (fr_m (fr_s Fm15 (fr_m (fr_s Fm4 (fr_m fr_0 rfl rfl) rfl rfl) rfl rfl) rfl rfl) rfl rfl) rfl rfl) rfl rfl) rfl rfl) rfl rfl) rfl rfl) rfl rfl), (show NKp (m99.2 18) (m99.2 19) by rewrite [(show (m99.2 18) = (m15.2 18) from ((fr2 Fm99 18 rfl).trans ((fr2 Fm67 18 rfl).trans (fr2 Fm31 18 rfl)))), (show (m99.2 19) = (m15.2 19) from ((fr2 Fm99 19 rfl).trans ((fr2 Fm67 19 rfl).trans (fr2 Fm31 19 rfl))))]; first | (exact hNK) | (exfalso; omega)), rfl⟩
          · skip
            refine T_ld 195 (.int (i32 1)) rfl (fun _ => rfl) ?_
            refine T_goto 199 rfl (fun _ => rfl) ?_
            refine T_sto 201 [(6, .int (i32 1)), (5, .int (i32 (m31.1 207))), (4, .int (i32 (m31.1 206))), (3, .int (i32 ro)), (0, .ref 178), (1, .ref (tbr t)), (2, .int (i32 i))] rfl (fun _ => rfl) ?_
            refine T_ld 203 (.int (i32 1)) rfl (fun _ => rfl) ?_
            refine T_if 217 206 rfl rfl rfl ⟨by decide, by decide⟩ (fun h107 => absurd (show (1 : Int) = 0 from h107) (by decide)) (fun _ => ?_)
            refine T_ld 207 (.ref 178) rfl (fun _ => rfl) ?_
            refine K_gf 210 (.ref 6) rfl rfl kd_178 rfl rfl rfl ?_
            refine T_ld 212 (.int (i32 8)) rfl (fun _ => rfl) ?_
            refine T_ld 214 (.int (i32 (m31.1 207))) rfl (fun _ => rfl) ?_
            refine T_callx 217 51 [.ref 6, .int (i32 8), .int (i32 (m31.1 207))] [] rfl (fun _ => rfl) rfl rfl (c_tx_fail w (mO m67 [] []) c N D (by omega) Tm67 8 (m31.1 207) ⟨by decide, by decide⟩ (r32 (by omega) (by omega)) (show 1 ≤ (8 : Int) ∧ (8 : Int) ≤ 8 by omega) (show 0 ≤ (m31.1 207) ∧ (m31.1 207) ≤ 4001 by omega)) (fun rr108 k109 => ?_)
            rcases k109 with ⟨m110, Tm110, Fm110, h111, rfl⟩ | ⟨xx114, m112, hx113, Tm112, Fm112, rfl⟩
            rotate_left
            · skip
              refine Or.inr ⟨_, _, _, _, rfl, ?_⟩
              exact Or.inr ⟨xx114, (mO m112 [] []), (hx113), Tm112, (fr_m (fr_s Fm112 (fr_m (fr_s Fm67 (fr_m (fr_s Fm31 (fr_m (fr_s Fm15 (fr_m (fr_s Fm4 (fr_m fr_0 rfl rfl) rfl rfl) rfl rfl) rfl rfl) rfl rfl) rfl rfl) rfl rfl) rfl rfl) rfl rfl) rfl rfl) rfl rfl), (show NKp (m112.2 18) (m112.2 19) by rewrite [(show (m112.2 18) = (m15.2 18) from ((fr2 Fm112 18 rfl).trans ((fr2 Fm67 18 rfl).trans (fr2 Fm31 18 rfl)))), (show (m112.2 19) = (m15.2 19) from ((fr2 Fm112 19 rfl).trans ((fr2 Fm67 19 rfl).trans (fr2 Fm31 19 rfl))))]; exact hNK), rfl⟩
            exact h111.elim
      · skip
        refine T_ld 138 (.int (i32 (m31.1 206))) rfl (fun _ => rfl) ?_
        refine T_ld 141 (.int (i32 314)) rfl (fun _ => rfl) ?_
        refine T_icmp 151 144 rfl rfl rfl (r32 (by omega) (by omega)) ⟨by decide, by decide⟩ (fun (h115 : (m31.1 206) = 314) => ?_) (fun (h115 : ¬ ((m31.1 206) = 314)) => ?_)
        · skip
          refine T_ld 152 (.ref 178) rfl (fun _ => rfl) ?_
          refine K_gf 155 (.ref 6) rfl rfl kd_178 rfl rfl rfl ?_
          refine T_callx 158 50 [.ref 6] [] rfl (fun _ => rfl) rfl rfl (c_tx_advance w (mO m31 [] []) c N D (by omega) Tm31 ) (fun rr116 k117 => ?_)
          rcases k117 with ⟨m118, Tm118, Fm118, h119, rfl⟩ | ⟨xx122, m120, hx121, Tm120, Fm120, rfl⟩
          rotate_left
          · skip
            refine Or.inr ⟨_, _, _, _, rfl, ?_⟩
            exact Or.inr ⟨xx122, (mO m120 [] []), (hx121), Tm120, (fr_m (fr_s Fm120 (fr_m (fr_s Fm31 (fr_m (fr_s Fm15 (fr_m (fr_s Fm4 (fr_m fr_0 rfl rfl) rfl rfl) rfl rfl) rfl rfl) rfl rfl) rfl rfl) rfl rfl) rfl rfl) rfl rfl), (show NKp (m120.2 18) (m120.2 19) by rewrite [(show (m120.2 18) = (m15.2 18) from ((fr2 Fm120 18 rfl).trans (fr2 Fm31 18 rfl))), (show (m120.2 19) = (m15.2 19) from ((fr2 Fm120 19 rfl).trans (fr2 Fm31 19 rfl)))]; exact hNK), rfl⟩
          refine Or.inl ⟨_, _, _, _, rfl, ?_⟩
          refine K_nb (st' := []) rfl ?_
          have g123 : (-1) ≤ m118.1 206 ∧ m118.1 206 ≤ 65535 := Tm118.1 206
          have g124 : 0 ≤ m118.1 207 ∧ m118.1 207 ≤ 4001 := Tm118.1 207
          replace h119 : (m31.1 213) = 0 := h119
          rewrite [(show (m31.1 213) = (m15.1 213) from (fr1 Fm31 213 rfl))] at h119
          refine T_ld 160 (.int (i32 (m31.1 206))) rfl (fun _ => rfl) ?_
          refine T_ld 163 (.int (i32 312)) rfl (fun _ => rfl) ?_
          refine T_icmp 176 166 rfl rfl rfl (r32 (by omega) (by omega)) ⟨by decide, by decide⟩ (fun (h125 : (m31.1 206) = 312) => by exfalso; omega) (fun (h125 : ¬ ((m31.1 206) = 312)) => ?_)
          refine T_ld 167 (.ref (tbr t)) rfl (fun _ => rfl) ?_
          refine T_ld 170 (.int (i32 313)) rfl (fun _ => rfl) ?_
          refine T_callx 173 130 [.ref (tbr t), .int (i32 313)] [] rfl (inv_vt (args := [.int (i32 313)]) (khp_t0 _ (by omega) (by omega)) rfl rfl rfl) rfl rfl (c_tb_hasKey w (mO m118 [] []) c N D (by omega) Tm118 t 313 (r32 (by omega) (by omega)) ⟨by decide, by decide⟩ (show 0 ≤ t ∧ t ≤ 7 by omega)) (fun rr126 k127 => ?_)
          obtain ⟨x128, g129, rfl⟩ := k127
          refine Or.inl ⟨_, _, _, _, rfl, ?_⟩
          refine T_ns (st' := [.int (i32 x128)]) rfl ?_
          obtain ⟨g129a, g129b⟩ := g129
          refine T_if 194 176 rfl rfl rfl (r32 (by omega) (by omega)) (fun (h130 : x128 ≠ 0) => ?_) (fun (h130 : ¬ (x128 ≠ 0)) => ?_)
          · skip
            refine T_ld 195 (.int (i32 1)) rfl (fun _ => rfl) ?_
            refine T_goto 199 rfl (fun _ => rfl) ?_
            refine T_sto 201 [(6, .int (i32 1)), (5, .int (i32 (m31.1 207))), (4, .int (i32 (m31.1 206))), (3, .int (i32 ro)), (0, .ref 178), (1, .ref (tbr t)), (2, .int (i32 i))] rfl (fun _ => rfl) ?_
            refine T_ld 203 (.int (i32 1)) rfl (fun _ => rfl) ?_
            refine T_if 217 206 rfl rfl rfl ⟨by decide, by decide⟩ (fun h131 => absurd (show (1 : Int) = 0 from h131) (by decide)) (fun _ => ?_)
            refine T_ld 207 (.ref 178) rfl (fun _ => rfl) ?_
            refine K_gf 210 (.ref 6) rfl rfl kd_178 rfl rfl rfl ?_
            refine T_ld 212 (.int (i32 8)) rfl (fun _ => rfl) ?_
            refine T_ld 214 (.int (i32 (m31.1 207))) rfl (fun _ => rfl) ?_
            refine T_callx 217 51 [.ref 6, .int (i32 8), .int (i32 (m31.1 207))] [] rfl (fun _ => rfl) rfl rfl (c_tx_fail w (mO m118 [] []) c N D (by omega) Tm118 8 (m31.1 207) ⟨by decide, by decide⟩ (r32 (by omega) (by omega)) (show 1 ≤ (8 : Int) ∧ (8 : Int) ≤ 8 by omega) (show 0 ≤ (m31.1 207) ∧ (m31.1 207) ≤ 4001 by omega)) (fun rr132 k133 => ?_)
            rcases k133 with ⟨m134, Tm134, Fm134, h135, rfl⟩ | ⟨xx138, m136, hx137, Tm136, Fm136, rfl⟩
            rotate_left
            · skip
              refine Or.inr ⟨_, _, _, _, rfl, ?_⟩
              exact Or.inr ⟨xx138, (mO m136 [] []), (hx137), Tm136, (fr_m (fr_s Fm136 (fr_m (fr_s Fm118 (fr_m (fr_s Fm31 (fr_m (fr_s Fm15 (fr_m (fr_s Fm4 (fr_m fr_0 rfl rfl) rfl rfl) rfl rfl) rfl rfl) rfl rfl) rfl rfl) rfl rfl) rfl rfl) rfl rfl) rfl rfl) rfl rfl), (show NKp (m136.2 18) (m136.2 19) by rewrite [(show (m136.2 18) = (m15.2 18) from ((fr2 Fm136 18 rfl).trans ((fr2 Fm118 18 rfl).trans (fr2 Fm31 18 rfl)))), (show (m136.2 19) = (m15.2 19) from ((fr2 Fm136 19 rfl).trans ((fr2 Fm118 19 rfl).trans (fr2 Fm31 19 rfl))))]; exact hNK), rfl⟩
            exact h135.elim
          · skip
            refine T_ld 178 (.int (i32 (m31.1 206))) rfl (fun _ => rfl) ?_
            refine T_ld 181 (.int (i32 313)) rfl (fun _ => rfl) ?_
            refine T_icmp 198 184 rfl rfl rfl (r32 (by omega) (by omega)) ⟨by decide, by decide⟩ (fun (h139 : (m31.1 206) ≠ 313) => ?_) (fun (h139 : ¬ ((m31.1 206) ≠ 313)) => by exfalso; omega)
            refine T_ld 199 (.int (i32 0)) rfl (fun _ => rfl) ?_
            refine T_sto 201 [(6, .int (i32 0)), (5, .int (i32 (m31.1 207))), (4, .int (i32 (m31.1 206))), (3, .int (i32 ro)), (0, .ref 178), (1, .ref (tbr t)), (2, .int (i32 i))] rfl (fun _ => rfl) ?_
            refine T_ld 203 (.int (i32 0)) rfl (fun _ => rfl) ?_
            refine T_if 217 206 rfl rfl rfl ⟨by decide, by decide⟩ (fun _ => ?_) (fun h140 => absurd (show (0 : Int) = 0 by decide) h140)
            refine T_ld 218 (.ref (tbr t)) rfl (fun _ => rfl) ?_
            refine K_gfr 221 rfl rfl (by omega) (by omega) rfl ?_
            refine T_ld 222 (.int (i32 i)) rfl (fun _ => rfl) ?_
            refine T_ld 224 (.int (i32 (m31.1 206))) rfl (fun _ => rfl) ?_
            have G141 : ∀ j, 0 ≤ (upI (m.2 81) (65536 * t + i) (m31.1 206)) j ∧ (upI (m.2 81) (65536 * t + i) (m31.1 206)) j ≤ 330 := upI_rg (hT.2.1 81) ⟨by omega, by omega⟩
            refine K_iastt (a' := [(81, upI (m.2 81) (65536 * t + i) (m31.1 206))]) 225 2 (m.2 81) rfl rfl rfl (by omega) (by omega) (by omega) (show i < (4 : Int) by omega) (show (m118.2 81) = (m.2 81) from ((fr2 Fm118 81 rfl).trans ((fr2 Fm31 81 rfl).trans ((fr2 Fm15 81 rfl).trans (fr2 Fm4 81 rfl))))) rfl ?_
            refine T_ld 226 (.ref (tbr t)) rfl (fun _ => rfl) ?_
            refine T_ld 227 (.int (i32 i)) rfl (fun _ => rfl) ?_
            refine T_ld 228 (.int (i32 1)) rfl (fun _ => rfl) ?_
            refine T_iadd 229 rfl rfl ?_
            have G142 : ∀ j, 0 ≤ (upI (m.2 72) t (i + 1)) j ∧ (upI (m.2 72) t (i + 1)) j ≤ 4 := upI_rg (hT.2.1 72) ⟨by omega, by omega⟩
            refine K_pfi (a' := [(72, upI (m.2 72) t (i + 1)), (81, upI (m.2 81) (65536 * t + i) (m31.1 206))]) 232 72 (m.2 72) rfl rfl rfl (by omega) (by omega) (show (m118.2 72) = (m.2 72) from ((fr2 Fm118 72 rfl).trans ((fr2 Fm31 72 rfl).trans ((fr2 Fm15 72 rfl).trans (fr2 Fm4 72 rfl))))) rfl rfl ?_
            refine T_ld 233 (.ref 178) rfl (fun _ => rfl) ?_
            refine K_gf 236 (.ref 6) rfl rfl kd_178 rfl rfl rfl ?_
            refine T_ld 238 (.int (i32 59)) rfl (fun _ => rfl) ?_
            refine T_callx 241 78 [.ref 6, .int (i32 59)] [] rfl (fun _ => rfl) rfl rfl (c_tx_expect w (mO m118 [] [(72, upI (m.2 72) t (i + 1)), (81, upI (m.2 81) (65536 * t + i) (m31.1 206))]) c N D (by omega) (KTy_mO Tm118 rfl rfl trivial ⟨G142, G141, trivial⟩) 59 ⟨by decide, by decide⟩) (fun rr143 k144 => ?_)
            rcases k144 with ⟨m145, Tm145, Fm145, h146, h147, rfl⟩ | ⟨xx150, m148, hx149, Tm148, Fm148, rfl⟩
            rotate_left
            · skip
              refine Or.inr ⟨_, _, _, _, rfl, ?_⟩
              exact Or.inr ⟨xx150, (mO m148 [] []), (hx149), Tm148, (fr_m (fr_s Fm148 (fr_m (fr_s Fm118 (fr_m (fr_s Fm31 (fr_m (fr_s Fm15 (fr_m (fr_s Fm4 (fr_m fr_0 rfl rfl) rfl rfl) rfl rfl) rfl rfl) rfl rfl) rfl rfl) rfl rfl) rfl rfl) rfl rfl) rfl rfl) rfl rfl), (show NKp (m148.2 18) (m148.2 19) by rewrite [(show (m148.2 18) = (m15.2 18) from ((fr2 Fm148 18 rfl).trans ((fr2 Fm118 18 rfl).trans (fr2 Fm31 18 rfl)))), (show (m148.2 19) = (m15.2 19) from ((fr2 Fm148 19 rfl).trans ((fr2 Fm118 19 rfl).trans (fr2 Fm31 19 rfl))))]; exact hNK), rfl⟩
            refine Or.inl ⟨_, _, _, _, rfl, ?_⟩
            refine K_nb (st' := []) rfl ?_
            have g151 : (-1) ≤ m145.1 206 ∧ m145.1 206 ≤ 65535 := Tm145.1 206
            have g152 : 0 ≤ m145.1 207 ∧ m145.1 207 ≤ 4001 := Tm145.1 207
            replace h146 : (m118.1 206) = (59 : Int) := h146
            replace h147 : (m118.1 213) = 0 := h147
            rewrite [(show (m118.1 213) = (m15.1 213) from ((fr1 Fm118 213 rfl).trans (fr1 Fm31 213 rfl)))] at h147
            refine T_ret rfl (fun _ => rfl) ?_
            exact Or.inl ⟨(mO m145 [] []), Tm145, (fr_m (fr_s Fm145 (fr_m (fr_s Fm118 (fr_m (fr_s Fm31 (fr_m (fr_s Fm15 (fr_m (fr_s Fm4 (fr_m fr_0 rfl rfl) rfl rfl) rfl rfl) rfl rfl) rfl rfl) rfl rfl) rfl rfl) rfl rfl) rfl rfl) rfl rfl) rfl rfl), (show NKp (m145.2 18) (m145.2 19) by rewrite [(show (m145.2 18) = (m15.2 18) from ((fr2 Fm145 18 rfl).trans ((fr2 Fm118 18 rfl).trans (fr2 Fm31 18 rfl)))), (show (m145.2 19) = (m15.2 19) from ((fr2 Fm145 19 rfl).trans ((fr2 Fm118 19 rfl).trans (fr2 Fm31 19 rfl))))]; first | (exact hNK) | (exfalso; omega)), rfl⟩
        · skip
          refine T_ld 145 (.ref 178) rfl (fun _ => rfl) ?_
          refine K_gf 148 (.ref 6) rfl rfl kd_178 rfl rfl rfl ?_
          refine T_callx 151 76 [.ref 6] [] rfl (fun _ => rfl) rfl rfl (c_tx_refuse w (mO m31 [] []) c N D (by omega) Tm31 ) (fun rr153 k154 => ?_)
          rcases k154 with ⟨m155, Tm155, Fm155, h156, rfl⟩ | ⟨xx159, m157, hx158, Tm157, Fm157, rfl⟩
          rotate_left
          · skip
            refine Or.inr ⟨_, _, _, _, rfl, ?_⟩
            exact Or.inr ⟨xx159, (mO m157 [] []), (hx158), Tm157, (fr_m (fr_s Fm157 (fr_m (fr_s Fm31 (fr_m (fr_s Fm15 (fr_m (fr_s Fm4 (fr_m fr_0 rfl rfl) rfl rfl) rfl rfl) rfl rfl) rfl rfl) rfl rfl) rfl rfl) rfl rfl) rfl rfl), (show NKp (m157.2 18) (m157.2 19) by rewrite [(show (m157.2 18) = (m15.2 18) from ((fr2 Fm157 18 rfl).trans (fr2 Fm31 18 rfl))), (show (m157.2 19) = (m15.2 19) from ((fr2 Fm157 19 rfl).trans (fr2 Fm31 19 rfl)))]; exact hNK), rfl⟩
          exact h156.elim
  · skip
    refine T_ld 14 (.int (i32 i)) rfl (fun _ => rfl) ?_
    refine T_ld 15 (.int (i32 4)) rfl (fun _ => rfl) ?_
    refine T_icmp 33 18 rfl rfl rfl (r32 (by omega) (by omega)) ⟨by decide, by decide⟩ (fun (h160 : i < 4) => ?_) (fun (h160 : ¬ (i < 4)) => ?_)
    · skip
      refine T_ld 34 (.ref 178) rfl (fun _ => rfl) ?_
      refine K_gf 37 (.ref 6) rfl rfl kd_178 rfl rfl rfl ?_
      refine T_ld 40 (.int (i32 311)) rfl (fun _ => rfl) ?_
      refine T_callx 43 78 [.ref 6, .int (i32 311)] [] rfl (fun _ => rfl) rfl rfl (c_tx_expect w (mO m [] []) c N D (by omega) hT 311 ⟨by decide, by decide⟩) (fun rr161 k162 => ?_)
      rcases k162 with ⟨m163, Tm163, Fm163, h164, h165, rfl⟩ | ⟨xx168, m166, hx167, Tm166, Fm166, rfl⟩
      rotate_left
      · skip
        refine Or.inr ⟨_, _, _, _, rfl, ?_⟩
        exact Or.inr ⟨xx168, (mO m166 [] []), (hx167), Tm166, (fr_m (fr_s Fm166 (fr_m fr_0 rfl rfl) rfl rfl) rfl rfl), (show NKp (m166.2 18) (m166.2 19) by rewrite [(show (m166.2 18) = (m.2 18) from (fr2 Fm166 18 rfl)), (show (m166.2 19) = (m.2 19) from (fr2 Fm166 19 rfl))]; exact hNK), rfl⟩
      refine Or.inl ⟨_, _, _, _, rfl, ?_⟩
      refine K_nb (st' := []) rfl ?_
      have g169 : (-1) ≤ m163.1 206 ∧ m163.1 206 ≤ 65535 := Tm163.1 206
      have g170 : 0 ≤ m163.1 207 ∧ m163.1 207 ≤ 4001 := Tm163.1 207
      replace h164 : (m.1 206) = (311 : Int) := h164
      replace h165 : (m.1 213) = 0 := h165
      refine T_ld 44 (.ref (tbr t)) rfl (fun _ => rfl) ?_
      refine K_gfr 47 rfl rfl (by omega) (by omega) rfl ?_
      refine T_ld 48 (.int (i32 i)) rfl (fun _ => rfl) ?_
      refine T_ld 49 (.ref 178) rfl (fun _ => rfl) ?_
      refine K_gf 52 (.ref 12) rfl rfl kd_178 rfl rfl rfl ?_
      refine K_gf 55 (.ref 22) rfl rfl kd_12 rfl rfl rfl ?_
      refine K_gf 58 (.int (i32 (m.1 220))) rfl rfl kd_22 rfl (kval_c2 (k := 220) (F := fun x => .int (i32 x)) rfl (show (m163.1 220) = (m.1 220) from (fr1 Fm163 220 rfl))) rfl ?_
      have G171 : ∀ j, 0 ≤ (upI (m.2 79) (65536 * t + i) (m.1 220)) j ∧ (upI (m.2 79) (65536 * t + i) (m.1 220)) j ≤ 1090 := upI_rg (hT.2.1 79) ⟨by omega, by omega⟩
      refine K_iastt (a' := [(79, upI (m.2 79) (65536 * t + i) (m.1 220))]) 59 0 (m.2 79) rfl rfl rfl (by omega) (by omega) (by omega) (show i < (4 : Int) by omega) (show (m163.2 79) = (m.2 79) from (fr2 Fm163 79 rfl)) rfl ?_
      refine T_ld 60 (.ref 178) rfl (fun _ => rfl) ?_
      refine K_gf 63 (.ref 181) rfl rfl kd_178 rfl rfl rfl ?_
      refine T_ld 64 (.int (i32 (-1))) rfl (fun _ => rfl) ?_
      refine T_callx 67 92 [.ref 181, .int (i32 (-1))] [] rfl (fun _ => rfl) rfl rfl (c_fm_whole w (mO m163 [] [(79, upI (m.2 79) (65536 * t + i) (m.1 220))]) c N D (by omega) (KTy_mO Tm163 rfl rfl trivial ⟨G171, trivial⟩) (-1) ⟨by decide, by decide⟩ (show NKp (m163.2 18) (m163.2 19) by rewrite [(show (m163.2 18) = (m.2 18) from (fr2 Fm163 18 rfl)), (show (m163.2 19) = (m.2 19) from (fr2 Fm163 19 rfl))]; exact hNK) (show KPp (m163.1 203) (m163.2 8) (m163.2 9) (m163.1 214) (m163.1 215) (m163.1 216) (m163.1 217) (m163.1 221) (m163.1 223) (m163.1 219) by rewrite [(show (m163.1 203) = (m.1 203) from (fr1 Fm163 203 rfl)), (show (m163.2 8) = (m.2 8) from (fr2 Fm163 8 rfl)), (show (m163.2 9) = (m.2 9) from (fr2 Fm163 9 rfl)), (show (m163.1 214) = (m.1 214) from (fr1 Fm163 214 rfl)), (show (m163.1 215) = (m.1 215) from (fr1 Fm163 215 rfl)), (show (m163.1 216) = (m.1 216) from (fr1 Fm163 216 rfl)), (show (m163.1 217) = (m.1 217) from (fr1 Fm163 217 rfl)), (show (m163.1 221) = (m.1 221) from (fr1 Fm163 221 rfl)), (show (m163.1 223) = (m.1 223) from (fr1 Fm163 223 rfl)), (show (m163.1 219) = (m.1 219) from (fr1 Fm163 219 rfl))]; exact pKP) (show (-1) ≤ (-1 : Int) ∧ (-1 : Int) ≤ 15 by omega)) (fun rr172 k173 => ?_)
      rcases k173 with ⟨m174, ro, Tm174, Fm174, g175, h176, rfl⟩ | ⟨xx180, m177, hx178, Tm177, Fm177, h179, rfl⟩
      rotate_left
      · skip
        refine Or.inr ⟨_, _, _, _, rfl, ?_⟩
        have hNK := h179
        exact Or.inr ⟨xx180, (mO m177 [] []), (hx178), Tm177, (fr_m (fr_s Fm177 (fr_m (fr_s Fm163 (fr_m fr_0 rfl rfl) rfl rfl) rfl rfl) rfl rfl) rfl rfl), (show NKp (m177.2 18) (m177.2 19) by exact hNK), rfl⟩
      refine Or.inl ⟨_, _, _, _, rfl, ?_⟩
      refine K_nb (st' := [.int (i32 ro)]) rfl ?_
      obtain ⟨g175a, g175b⟩ := g175
      have g181 : (-1) ≤ m174.1 206 ∧ m174.1 206 ≤ 65535 := Tm174.1 206
      have g182 : 0 ≤ m174.1 207 ∧ m174.1 207 ≤ 4001 := Tm174.1 207
      have g183 : 0 ≤ m174.1 213 ∧ m174.1 213 ≤ 1 := Tm174.1 213
      have g184 : 0 ≤ m174.1 220 ∧ m174.1 220 ≤ 1090 := Tm174.1 220
      replace h176 : NKp (m174.2 18) (m174.2 19) := h176
      have hNK := h176
      refine T_sto 68 [(3, .int (i32 ro)), (0, .ref 178), (1, .ref (tbr t)), (2, .int (i32 i))] rfl (fun _ => rfl) ?_
      refine T_ld 69 (.ref (tbr t)) rfl (fun _ => rfl) ?_
      refine K_gfr 72 rfl rfl (by omega) (by omega) rfl ?_
      refine T_ld 73 (.int (i32 i)) rfl (fun _ => rfl) ?_
      refine T_ld 74 (.int (i32 ro)) rfl (fun _ => rfl) ?_
      have G185 : ∀ j, 0 ≤ (upI (m.2 80) (65536 * t + i) ro) j ∧ (upI (m.2 80) (65536 * t + i) ro) j ≤ 1089 := upI_rg (hT.2.1 80) ⟨by omega, by omega⟩
      refine K_iastt (a' := [(80, upI (m.2 80) (65536 * t + i) ro)]) 75 1 (m.2 80) rfl rfl rfl (by omega) (by omega) (by omega) (show i < (4 : Int) by omega) (show (m174.2 80) = (m.2 80) from ((fr2 Fm174 80 rfl).trans (fr2 Fm163 80 rfl))) rfl ?_
      refine T_ld 76 (.ref (tbr t)) rfl (fun _ => rfl) ?_
      refine K_gfr 79 rfl rfl (by omega) (by omega) rfl ?_
      refine T_ld 80 (.int (i32 i)) rfl (fun _ => rfl) ?_
      refine T_ld 81 (.ref 178) rfl (fun _ => rfl) ?_
      refine K_gf 84 (.ref 12) rfl rfl kd_178 rfl rfl rfl ?_
      refine K_gf 87 (.ref 22) rfl rfl kd_12 rfl rfl rfl ?_
      refine K_gf 90 (.ref 27) rfl rfl kd_22 rfl rfl rfl ?_
      refine T_ld 91 (.int (i32 ro)) rfl (fun _ => rfl) ?_
      refine K_iald 92 22 (m174.2 22) rfl rfl rfl (by omega) (show ro < (1090 : Int) by omega) rfl ?_
      have e186 : 0 ≤ (m174.2 22) ro ∧ (m174.2 22) ro ≤ 64 := (Tm174.2.1 22) ro
      have G187 : ∀ j, 0 ≤ (upI (m.2 82) (65536 * t + i) ((m174.2 22) ro)) j ∧ (upI (m.2 82) (65536 * t + i) ((m174.2 22) ro)) j ≤ 64 := upI_rg (hT.2.1 82) ⟨by omega, by omega⟩
      refine K_iastt (a' := [(80, upI (m.2 80) (65536 * t + i) ro), (82, upI (m.2 82) (65536 * t + i) ((m174.2 22) ro))]) 93 3 (m.2 82) rfl rfl rfl (by omega) (by omega) (by omega) (show i < (4 : Int) by omega) (show (m174.2 82) = (m.2 82) from ((fr2 Fm174 82 rfl).trans (fr2 Fm163 82 rfl))) rfl ?_
      refine T_ld 94 (.ref 178) rfl (fun _ => rfl) ?_
      refine K_gf 97 (.ref 6) rfl rfl kd_178 rfl rfl rfl ?_
      refine T_ld 99 (.int (i32 58)) rfl (fun _ => rfl) ?_
      refine T_callx 102 78 [.ref 6, .int (i32 58)] [] rfl (fun _ => rfl) rfl rfl (c_tx_expect w (mO m174 [] [(80, upI (m.2 80) (65536 * t + i) ro), (82, upI (m.2 82) (65536 * t + i) ((m174.2 22) ro))]) c N D (by omega) (KTy_mO Tm174 rfl rfl trivial ⟨G185, G187, trivial⟩) 58 ⟨by decide, by decide⟩) (fun rr188 k189 => ?_)
      rcases k189 with ⟨m190, Tm190, Fm190, h191, h192, rfl⟩ | ⟨xx195, m193, hx194, Tm193, Fm193, rfl⟩
      rotate_left
      · skip
        refine Or.inr ⟨_, _, _, _, rfl, ?_⟩
        exact Or.inr ⟨xx195, (mO m193 [] []), (hx194), Tm193, (fr_m (fr_s Fm193 (fr_m (fr_s Fm174 (fr_m (fr_s Fm163 (fr_m fr_0 rfl rfl) rfl rfl) rfl rfl) rfl rfl) rfl rfl) rfl rfl) rfl rfl), (show NKp (m193.2 18) (m193.2 19) by rewrite [(show (m193.2 18) = (m174.2 18) from (fr2 Fm193 18 rfl)), (show (m193.2 19) = (m174.2 19) from (fr2 Fm193 19 rfl))]; exact hNK), rfl⟩
      refine Or.inl ⟨_, _, _, _, rfl, ?_⟩
      refine K_nb (st' := []) rfl ?_
      have g196 : (-1) ≤ m190.1 206 ∧ m190.1 206 ≤ 65535 := Tm190.1 206
      have g197 : 0 ≤ m190.1 207 ∧ m190.1 207 ≤ 4001 := Tm190.1 207
      replace h191 : (m174.1 206) = (58 : Int) := h191
      replace h192 : (m174.1 213) = 0 := h192
      refine T_ld 103 (.ref 178) rfl (fun _ => rfl) ?_
      refine K_gf 106 (.ref 6) rfl rfl kd_178 rfl rfl rfl ?_
      refine K_gf 109 (.int (i32 (m190.1 206))) rfl rfl kd_6 rfl rfl rfl ?_
      refine T_sto 111 [(4, .int (i32 (m190.1 206))), (3, .int (i32 ro)), (0, .ref 178), (1, .ref (tbr t)), (2, .int (i32 i))] rfl (fun _ => rfl) ?_
      refine T_ld 112 (.ref 178) rfl (fun _ => rfl) ?_
      refine K_gf 115 (.ref 6) rfl rfl kd_178 rfl rfl rfl ?_
      refine K_gf 118 (.int (i32 (m190.1 207))) rfl rfl kd_6 rfl rfl rfl ?_
      refine T_sto 120 [(5, .int (i32 (m190.1 207))), (4, .int (i32 (m190.1 206))), (3, .int (i32 ro)), (0, .ref 178), (1, .ref (tbr t)), (2, .int (i32 i))] rfl (fun _ => rfl) ?_
      refine T_ld 122 (.int (i32 (m190.1 206))) rfl (fun _ => rfl) ?_
      refine T_ld 125 (.int (i32 312)) rfl (fun _ => rfl) ?_
      refine T_icmp 151 128 rfl rfl rfl (r32 (by omega) (by omega)) ⟨by decide, by decide⟩ (fun (h198 : (m190.1 206) = 312) => ?_) (fun (h198 : ¬ ((m190.1 206) = 312)) => ?_)
      · skip
        refine T_ld 152 (.ref 178) rfl (fun _ => rfl) ?_
        refine K_gf 155 (.ref 6) rfl rfl kd_178 rfl rfl rfl ?_
        refine T_callx 158 50 [.ref 6] [] rfl (fun _ => rfl) rfl rfl (c_tx_advance w (mO m190 [] []) c N D (by omega) Tm190 ) (fun rr199 k200 => ?_)
        rcases k200 with ⟨m201, Tm201, Fm201, h202, rfl⟩ | ⟨xx205, m203, hx204, Tm203, Fm203, rfl⟩
        rotate_left
        · skip
          refine Or.inr ⟨_, _, _, _, rfl, ?_⟩
          exact Or.inr ⟨xx205, (mO m203 [] []), (hx204), Tm203, (fr_m (fr_s Fm203 (fr_m (fr_s Fm190 (fr_m (fr_s Fm174 (fr_m (fr_s Fm163 (fr_m fr_0 rfl rfl) rfl rfl) rfl rfl) rfl rfl) rfl rfl) rfl rfl) rfl rfl) rfl rfl) rfl rfl), (show NKp (m203.2 18) (m203.2 19) by rewrite [(show (m203.2 18) = (m174.2 18) from ((fr2 Fm203 18 rfl).trans (fr2 Fm190 18 rfl))), (show (m203.2 19) = (m174.2 19) from ((fr2 Fm203 19 rfl).trans (fr2 Fm190 19 rfl)))]; exact hNK), rfl⟩
        refine Or.inl ⟨_, _, _, _, rfl, ?_⟩
        refine K_nb (st' := []) rfl ?_
        have g206 : (-1) ≤ m201.1 206 ∧ m201.1 206 ≤ 65535 := Tm201.1 206
        have g207 : 0 ≤ m201.1 207 ∧ m201.1 207 ≤ 4001 := Tm201.1 207
        replace h202 : (m190.1 213) = 0 := h202
        rewrite [(show (m190.1 213) = (m174.1 213) from (fr1 Fm190 213 rfl))] at h202
        refine T_ld 160 (.int (i32 (m190.1 206))) rfl (fun _ => rfl) ?_
        refine T_ld 163 (.int (i32 312)) rfl (fun _ => rfl) ?_
        refine T_icmp 176 166 rfl rfl rfl (r32 (by omega) (by omega)) ⟨by decide, by decide⟩ (fun (h208 : (m190.1 206) = 312) => ?_) (fun (h208 : ¬ ((m190.1 206) = 312)) => by exfalso; omega)
        refine T_ld 178 (.int (i32 (m190.1 206))) rfl (fun _ => rfl) ?_
        refine T_ld 181 (.int (i32 313)) rfl (fun _ => rfl) ?_
        refine T_icmp 198 184 rfl rfl rfl (r32 (by omega) (by omega)) ⟨by decide, by decide⟩ (fun (h209 : (m190.1 206) ≠ 313) => ?_) (fun (h209 : ¬ ((m190.1 206) ≠ 313)) => by exfalso; omega)
        refine T_ld 199 (.int (i32 0)) rfl (fun _ => rfl) ?_
        refine T_sto 201 [(6, .int (i32 0)), (5, .int (i32 (m190.1 207))), (4, .int (i32 (m190.1 206))), (3, .int (i32 ro)), (0, .ref 178), (1, .ref (tbr t)), (2, .int (i32 i))] rfl (fun _ => rfl) ?_
        refine T_ld 203 (.int (i32 0)) rfl (fun _ => rfl) ?_
        refine T_if 217 206 rfl rfl rfl ⟨by decide, by decide⟩ (fun _ => ?_) (fun h210 => absurd (show (0 : Int) = 0 by decide) h210)
        refine T_ld 218 (.ref (tbr t)) rfl (fun _ => rfl) ?_
        refine K_gfr 221 rfl rfl (by omega) (by omega) rfl ?_
        refine T_ld 222 (.int (i32 i)) rfl (fun _ => rfl) ?_
        refine T_ld 224 (.int (i32 (m190.1 206))) rfl (fun _ => rfl) ?_
        have G211 : ∀ j, 0 ≤ (upI (m.2 81) (65536 * t + i) (m190.1 206)) j ∧ (upI (m.2 81) (65536 * t + i) (m190.1 206)) j ≤ 330 := upI_rg (hT.2.1 81) ⟨by omega, by omega⟩
        refine K_iastt (a' := [(81, upI (m.2 81) (65536 * t + i) (m190.1 206))]) 225 2 (m.2 81) rfl rfl rfl (by omega) (by omega) (by omega) (show i < (4 : Int) by omega) (show (m201.2 81) = (m.2 81) from ((fr2 Fm201 81 rfl).trans ((fr2 Fm190 81 rfl).trans ((fr2 Fm174 81 rfl).trans (fr2 Fm163 81 rfl))))) rfl ?_
        refine T_ld 226 (.ref (tbr t)) rfl (fun _ => rfl) ?_
        refine T_ld 227 (.int (i32 i)) rfl (fun _ => rfl) ?_
        refine T_ld 228 (.int (i32 1)) rfl (fun _ => rfl) ?_
        refine T_iadd 229 rfl rfl ?_
        have G212 : ∀ j, 0 ≤ (upI (m.2 72) t (i + 1)) j ∧ (upI (m.2 72) t (i + 1)) j ≤ 4 := upI_rg (hT.2.1 72) ⟨by omega, by omega⟩
        refine K_pfi (a' := [(72, upI (m.2 72) t (i + 1)), (81, upI (m.2 81) (65536 * t + i) (m190.1 206))]) 232 72 (m.2 72) rfl rfl rfl (by omega) (by omega) (show (m201.2 72) = (m.2 72) from ((fr2 Fm201 72 rfl).trans ((fr2 Fm190 72 rfl).trans ((fr2 Fm174 72 rfl).trans (fr2 Fm163 72 rfl))))) rfl rfl ?_
        refine T_ld 233 (.ref 178) rfl (fun _ => rfl) ?_
        refine K_gf 236 (.ref 6) rfl rfl kd_178 rfl rfl rfl ?_
        refine T_ld 238 (.int (i32 59)) rfl (fun _ => rfl) ?_
        refine T_callx 241 78 [.ref 6, .int (i32 59)] [] rfl (fun _ => rfl) rfl rfl (c_tx_expect w (mO m201 [] [(72, upI (m.2 72) t (i + 1)), (81, upI (m.2 81) (65536 * t + i) (m190.1 206))]) c N D (by omega) (KTy_mO Tm201 rfl rfl trivial ⟨G212, G211, trivial⟩) 59 ⟨by decide, by decide⟩) (fun rr213 k214 => ?_)
        rcases k214 with ⟨m215, Tm215, Fm215, h216, h217, rfl⟩ | ⟨xx220, m218, hx219, Tm218, Fm218, rfl⟩
        rotate_left
        · skip
          refine Or.inr ⟨_, _, _, _, rfl, ?_⟩
          exact Or.inr ⟨xx220, (mO m218 [] []), (hx219), Tm218, (fr_m (fr_s Fm218 (fr_m (fr_s Fm201 (fr_m (fr_s Fm190 (fr_m (fr_s Fm174 (fr_m (fr_s Fm163 (fr_m fr_0 rfl rfl) rfl rfl) rfl rfl) rfl rfl) rfl rfl) rfl rfl) rfl rfl) rfl rfl) rfl rfl) rfl rfl) rfl rfl), (show NKp (m218.2 18) (m218.2 19) by rewrite [(show (m218.2 18) = (m174.2 18) from ((fr2 Fm218 18 rfl).trans ((fr2 Fm201 18 rfl).trans (fr2 Fm190 18 rfl)))), (show (m218.2 19) = (m174.2 19) from ((fr2 Fm218 19 rfl).trans ((fr2 Fm201 19 rfl).trans (fr2 Fm190 19 rfl))))]; exact hNK), rfl⟩
        refine Or.inl ⟨_, _, _, _, rfl, ?_⟩
        refine K_nb (st' := []) rfl ?_
        have g221 : (-1) ≤ m215.1 206 ∧ m215.1 206 ≤ 65535 := Tm215.1 206
        have g222 : 0 ≤ m215.1 207 ∧ m215.1 207 ≤ 4001 := Tm215.1 207
        replace h216 : (m201.1 206) = (59 : Int) := h216
        replace h217 : (m201.1 213) = 0 := h217
        rewrite [(show (m201.1 213) = (m174.1 213) from ((fr1 Fm201 213 rfl).trans (fr1 Fm190 213 rfl)))] at h217
        refine T_ret rfl (fun _ => rfl) ?_
        exact Or.inl ⟨(mO m215 [] []), Tm215, (fr_m (fr_s Fm215 (fr_m (fr_s Fm201 (fr_m (fr_s Fm190 (fr_m (fr_s Fm174 (fr_m (fr_s Fm163 (fr_m fr_0 rfl rfl) rfl rfl) rfl rfl) rfl rfl) rfl rfl) rfl rfl) rfl rfl) rfl rfl) rfl rfl) rfl rfl) rfl rfl), (show NKp (m215.2 18) (m215.2 19) by rewrite [(show (m215.2 18) = (m174.2 18) from ((fr2 Fm215 18 rfl).trans ((fr2 Fm201 18 rfl).trans (fr2 Fm190 18 rfl)))), (show (m215.2 19) = (m174.2 19) from ((fr2 Fm215 19 rfl).trans ((fr2 Fm201 19 rfl).trans (fr2 Fm190 19 rfl))))]; first | (exact hNK) | (exfalso; omega)), rfl⟩
      · skip
        refine T_ld 130 (.int (i32 (m190.1 206))) rfl (fun _ => rfl) ?_
        refine T_ld 133 (.int (i32 313)) rfl (fun _ => rfl) ?_
        refine T_icmp 151 136 rfl rfl rfl (r32 (by omega) (by omega)) ⟨by decide, by decide⟩ (fun (h223 : (m190.1 206) = 313) => ?_) (fun (h223 : ¬ ((m190.1 206) = 313)) => ?_)
        · skip
          refine T_ld 152 (.ref 178) rfl (fun _ => rfl) ?_
          refine K_gf 155 (.ref 6) rfl rfl kd_178 rfl rfl rfl ?_
          refine T_callx 158 50 [.ref 6] [] rfl (fun _ => rfl) rfl rfl (c_tx_advance w (mO m190 [] []) c N D (by omega) Tm190 ) (fun rr224 k225 => ?_)
          rcases k225 with ⟨m226, Tm226, Fm226, h227, rfl⟩ | ⟨xx230, m228, hx229, Tm228, Fm228, rfl⟩
          rotate_left
          · skip
            refine Or.inr ⟨_, _, _, _, rfl, ?_⟩
            exact Or.inr ⟨xx230, (mO m228 [] []), (hx229), Tm228, (fr_m (fr_s Fm228 (fr_m (fr_s Fm190 (fr_m (fr_s Fm174 (fr_m (fr_s Fm163 (fr_m fr_0 rfl rfl) rfl rfl) rfl rfl) rfl rfl) rfl rfl) rfl rfl) rfl rfl) rfl rfl) rfl rfl), (show NKp (m228.2 18) (m228.2 19) by rewrite [(show (m228.2 18) = (m174.2 18) from ((fr2 Fm228 18 rfl).trans (fr2 Fm190 18 rfl))), (show (m228.2 19) = (m174.2 19) from ((fr2 Fm228 19 rfl).trans (fr2 Fm190 19 rfl)))]; exact hNK), rfl⟩
          refine Or.inl ⟨_, _, _, _, rfl, ?_⟩
          refine K_nb (st' := []) rfl ?_
          have g231 : (-1) ≤ m226.1 206 ∧ m226.1 206 ≤ 65535 := Tm226.1 206
          have g232 : 0 ≤ m226.1 207 ∧ m226.1 207 ≤ 4001 := Tm226.1 207
          replace h227 : (m190.1 213) = 0 := h227
          rewrite [(show (m190.1 213) = (m174.1 213) from (fr1 Fm190 213 rfl))] at h227
          refine T_ld 160 (.int (i32 (m190.1 206))) rfl (fun _ => rfl) ?_
          refine T_ld 163 (.int (i32 312)) rfl (fun _ => rfl) ?_
          refine T_icmp 176 166 rfl rfl rfl (r32 (by omega) (by omega)) ⟨by decide, by decide⟩ (fun (h233 : (m190.1 206) = 312) => by exfalso; omega) (fun (h233 : ¬ ((m190.1 206) = 312)) => ?_)
          refine T_ld 167 (.ref (tbr t)) rfl (fun _ => rfl) ?_
          refine T_ld 170 (.int (i32 313)) rfl (fun _ => rfl) ?_
          refine T_callx 173 130 [.ref (tbr t), .int (i32 313)] [] rfl (inv_vt (args := [.int (i32 313)]) (khp_t0 _ (by omega) (by omega)) rfl rfl rfl) rfl rfl (c_tb_hasKey w (mO m226 [] []) c N D (by omega) Tm226 t 313 (r32 (by omega) (by omega)) ⟨by decide, by decide⟩ (show 0 ≤ t ∧ t ≤ 7 by omega)) (fun rr234 k235 => ?_)
          obtain ⟨x236, g237, rfl⟩ := k235
          refine Or.inl ⟨_, _, _, _, rfl, ?_⟩
          refine T_ns (st' := [.int (i32 x236)]) rfl ?_
          obtain ⟨g237a, g237b⟩ := g237
          refine T_if 194 176 rfl rfl rfl (r32 (by omega) (by omega)) (fun (h238 : x236 ≠ 0) => ?_) (fun (h238 : ¬ (x236 ≠ 0)) => ?_)
          · skip
            refine T_ld 195 (.int (i32 1)) rfl (fun _ => rfl) ?_
            refine T_goto 199 rfl (fun _ => rfl) ?_
            refine T_sto 201 [(6, .int (i32 1)), (5, .int (i32 (m190.1 207))), (4, .int (i32 (m190.1 206))), (3, .int (i32 ro)), (0, .ref 178), (1, .ref (tbr t)), (2, .int (i32 i))] rfl (fun _ => rfl) ?_
            refine T_ld 203 (.int (i32 1)) rfl (fun _ => rfl) ?_
            refine T_if 217 206 rfl rfl rfl ⟨by decide, by decide⟩ (fun h239 => absurd (show (1 : Int) = 0 from h239) (by decide)) (fun _ => ?_)
            refine T_ld 207 (.ref 178) rfl (fun _ => rfl) ?_
            refine K_gf 210 (.ref 6) rfl rfl kd_178 rfl rfl rfl ?_
            refine T_ld 212 (.int (i32 8)) rfl (fun _ => rfl) ?_
            refine T_ld 214 (.int (i32 (m190.1 207))) rfl (fun _ => rfl) ?_
            refine T_callx 217 51 [.ref 6, .int (i32 8), .int (i32 (m190.1 207))] [] rfl (fun _ => rfl) rfl rfl (c_tx_fail w (mO m226 [] []) c N D (by omega) Tm226 8 (m190.1 207) ⟨by decide, by decide⟩ (r32 (by omega) (by omega)) (show 1 ≤ (8 : Int) ∧ (8 : Int) ≤ 8 by omega) (show 0 ≤ (m190.1 207) ∧ (m190.1 207) ≤ 4001 by omega)) (fun rr240 k241 => ?_)
            rcases k241 with ⟨m242, Tm242, Fm242, h243, rfl⟩ | ⟨xx246, m244, hx245, Tm244, Fm244, rfl⟩
            rotate_left
            · skip
              refine Or.inr ⟨_, _, _, _, rfl, ?_⟩
              exact Or.inr ⟨xx246, (mO m244 [] []), (hx245), Tm244, (fr_m (fr_s Fm244 (fr_m (fr_s Fm226 (fr_m (fr_s Fm190 (fr_m (fr_s Fm174 (fr_m (fr_s Fm163 (fr_m fr_0 rfl rfl) rfl rfl) rfl rfl) rfl rfl) rfl rfl) rfl rfl) rfl rfl) rfl rfl) rfl rfl) rfl rfl) rfl rfl), (show NKp (m244.2 18) (m244.2 19) by rewrite [(show (m244.2 18) = (m174.2 18) from ((fr2 Fm244 18 rfl).trans ((fr2 Fm226 18 rfl).trans (fr2 Fm190 18 rfl)))), (show (m244.2 19) = (m174.2 19) from ((fr2 Fm244 19 rfl).trans ((fr2 Fm226 19 rfl).trans (fr2 Fm190 19 rfl))))]; exact hNK), rfl⟩
            exact h243.elim
          · skip
            refine T_ld 178 (.int (i32 (m190.1 206))) rfl (fun _ => rfl) ?_
            refine T_ld 181 (.int (i32 313)) rfl (fun _ => rfl) ?_
            refine T_icmp 198 184 rfl rfl rfl (r32 (by omega) (by omega)) ⟨by decide, by decide⟩ (fun (h247 : (m190.1 206) ≠ 313) => by exfalso; omega) (fun (h247 : ¬ ((m190.1 206) ≠ 313)) => ?_)
            refine T_ld 185 (.ref (tbr t)) rfl (fun _ => rfl) ?_
            refine T_ld 188 (.int (i32 314)) rfl (fun _ => rfl) ?_
            refine T_callx 191 130 [.ref (tbr t), .int (i32 314)] [] rfl (inv_vt (args := [.int (i32 314)]) (khp_t0 _ (by omega) (by omega)) rfl rfl rfl) rfl rfl (c_tb_hasKey w (mO m226 [] []) c N D (by omega) Tm226 t 314 (r32 (by omega) (by omega)) ⟨by decide, by decide⟩ (show 0 ≤ t ∧ t ≤ 7 by omega)) (fun rr248 k249 => ?_)
            obtain ⟨x250, g251, rfl⟩ := k249
            refine Or.inl ⟨_, _, _, _, rfl, ?_⟩
            refine T_ns (st' := [.int (i32 x250)]) rfl ?_
            obtain ⟨g251a, g251b⟩ := g251
            refine T_if 198 194 rfl rfl rfl (r32 (by omega) (by omega)) (fun (h252 : x250 = 0) => ?_) (fun (h252 : ¬ (x250 = 0)) => ?_)
            · skip
              refine T_ld 199 (.int (i32 0)) rfl (fun _ => rfl) ?_
              refine T_sto 201 [(6, .int (i32 0)), (5, .int (i32 (m190.1 207))), (4, .int (i32 (m190.1 206))), (3, .int (i32 ro)), (0, .ref 178), (1, .ref (tbr t)), (2, .int (i32 i))] rfl (fun _ => rfl) ?_
              refine T_ld 203 (.int (i32 0)) rfl (fun _ => rfl) ?_
              refine T_if 217 206 rfl rfl rfl ⟨by decide, by decide⟩ (fun _ => ?_) (fun h253 => absurd (show (0 : Int) = 0 by decide) h253)
              refine T_ld 218 (.ref (tbr t)) rfl (fun _ => rfl) ?_
              refine K_gfr 221 rfl rfl (by omega) (by omega) rfl ?_
              refine T_ld 222 (.int (i32 i)) rfl (fun _ => rfl) ?_
              refine T_ld 224 (.int (i32 (m190.1 206))) rfl (fun _ => rfl) ?_
              have G254 : ∀ j, 0 ≤ (upI (m.2 81) (65536 * t + i) (m190.1 206)) j ∧ (upI (m.2 81) (65536 * t + i) (m190.1 206)) j ≤ 330 := upI_rg (hT.2.1 81) ⟨by omega, by omega⟩
              refine K_iastt (a' := [(81, upI (m.2 81) (65536 * t + i) (m190.1 206))]) 225 2 (m.2 81) rfl rfl rfl (by omega) (by omega) (by omega) (show i < (4 : Int) by omega) (show (m226.2 81) = (m.2 81) from ((fr2 Fm226 81 rfl).trans ((fr2 Fm190 81 rfl).trans ((fr2 Fm174 81 rfl).trans (fr2 Fm163 81 rfl))))) rfl ?_
              refine T_ld 226 (.ref (tbr t)) rfl (fun _ => rfl) ?_
              refine T_ld 227 (.int (i32 i)) rfl (fun _ => rfl) ?_
              refine T_ld 228 (.int (i32 1)) rfl (fun _ => rfl) ?_
              refine T_iadd 229 rfl rfl ?_
              have G255 : ∀ j, 0 ≤ (upI (m.2 72) t (i + 1)) j ∧ (upI (m.2 72) t (i + 1)) j ≤ 4 := upI_rg (hT.2.1 72) ⟨by omega, by omega⟩
              refine K_pfi (a' := [(72, upI (m.2 72) t (i + 1)), (81, upI (m.2 81) (65536 * t + i) (m190.1 206))]) 232 72 (m.2 72) rfl rfl rfl (by omega) (by omega) (show (m226.2 72) = (m.2 72) from ((fr2 Fm226 72 rfl).trans ((fr2 Fm190 72 rfl).trans ((fr2 Fm174 72 rfl).trans (fr2 Fm163 72 rfl))))) rfl rfl ?_
              refine T_ld 233 (.ref 178) rfl (fun _ => rfl) ?_
              refine K_gf 236 (.ref 6) rfl rfl kd_178 rfl rfl rfl ?_
              refine T_ld 238 (.int (i32 59)) rfl (fun _ => rfl) ?_
              refine T_callx 241 78 [.ref 6, .int (i32 59)] [] rfl (fun _ => rfl) rfl rfl (c_tx_expect w (mO m226 [] [(72, upI (m.2 72) t (i + 1)), (81, upI (m.2 81) (65536 * t + i) (m190.1 206))]) c N D (by omega) (KTy_mO Tm226 rfl rfl trivial ⟨G255, G254, trivial⟩) 59 ⟨by decide, by decide⟩) (fun rr256 k257 => ?_)
              rcases k257 with ⟨m258, Tm258, Fm258, h259, h260, rfl⟩ | ⟨xx263, m261, hx262, Tm261, Fm261, rfl⟩
              rotate_left
              · skip
                refine Or.inr ⟨_, _, _, _, rfl, ?_⟩
                exact Or.inr ⟨xx263, (mO m261 [] []), (hx262), Tm261, (fr_m (fr_s Fm261 (fr_m (fr_s Fm226 (fr_m (fr_s Fm190 (fr_m (fr_s Fm174 (fr_m (fr_s Fm163 (fr_m fr_0 rfl rfl) rfl rfl) rfl rfl) rfl rfl) rfl rfl) rfl rfl) rfl rfl) rfl rfl) rfl rfl) rfl rfl) rfl rfl), (show NKp (m261.2 18) (m261.2 19) by rewrite [(show (m261.2 18) = (m174.2 18) from ((fr2 Fm261 18 rfl).trans ((fr2 Fm226 18 rfl).trans (fr2 Fm190 18 rfl)))), (show (m261.2 19) = (m174.2 19) from ((fr2 Fm261 19 rfl).trans ((fr2 Fm226 19 rfl).trans (fr2 Fm190 19 rfl))))]; exact hNK), rfl⟩
              refine Or.inl ⟨_, _, _, _, rfl, ?_⟩
              refine K_nb (st' := []) rfl ?_
              have g264 : (-1) ≤ m258.1 206 ∧ m258.1 206 ≤ 65535 := Tm258.1 206
              have g265 : 0 ≤ m258.1 207 ∧ m258.1 207 ≤ 4001 := Tm258.1 207
              replace h259 : (m226.1 206) = (59 : Int) := h259
              replace h260 : (m226.1 213) = 0 := h260
              rewrite [(show (m226.1 213) = (m174.1 213) from ((fr1 Fm226 213 rfl).trans (fr1 Fm190 213 rfl)))] at h260
              refine T_ret rfl (fun _ => rfl) ?_
              exact Or.inl ⟨(mO m258 [] []), Tm258, (fr_m (fr_s Fm258 (fr_m (fr_s Fm226 (fr_m (fr_s Fm190 (fr_m (fr_s Fm174 (fr_m (fr_s Fm163 (fr_m fr_0 rfl rfl) rfl rfl) rfl rfl) rfl rfl) rfl rfl) rfl rfl) rfl rfl) rfl rfl) rfl rfl) rfl rfl) rfl rfl), (show NKp (m258.2 18) (m258.2 19) by rewrite [(show (m258.2 18) = (m174.2 18) from ((fr2 Fm258 18 rfl).trans ((fr2 Fm226 18 rfl).trans (fr2 Fm190 18 rfl)))), (show (m258.2 19) = (m174.2 19) from ((fr2 Fm258 19 rfl).trans ((fr2 Fm226 19 rfl).trans (fr2 Fm190 19 rfl))))]; first | (exact hNK) | (exfalso; omega)), rfl⟩
            · skip
              refine T_ld 195 (.int (i32 1)) rfl (fun _ => rfl) ?_
              refine T_goto 199 rfl (fun _ => rfl) ?_
              refine T_sto 201 [(6, .int (i32 1)), (5, .int (i32 (m190.1 207))), (4, .int (i32 (m190.1 206))), (3, .int (i32 ro)), (0, .ref 178), (1, .ref (tbr t)), (2, .int (i32 i))] rfl (fun _ => rfl) ?_
              refine T_ld 203 (.int (i32 1)) rfl (fun _ => rfl) ?_
              refine T_if 217 206 rfl rfl rfl ⟨by decide, by decide⟩ (fun h266 => absurd (show (1 : Int) = 0 from h266) (by decide)) (fun _ => ?_)
              refine T_ld 207 (.ref 178) rfl (fun _ => rfl) ?_
              refine K_gf 210 (.ref 6) rfl rfl kd_178 rfl rfl rfl ?_
              refine T_ld 212 (.int (i32 8)) rfl (fun _ => rfl) ?_
              refine T_ld 214 (.int (i32 (m190.1 207))) rfl (fun _ => rfl) ?_
              refine T_callx 217 51 [.ref 6, .int (i32 8), .int (i32 (m190.1 207))] [] rfl (fun _ => rfl) rfl rfl (c_tx_fail w (mO m226 [] []) c N D (by omega) Tm226 8 (m190.1 207) ⟨by decide, by decide⟩ (r32 (by omega) (by omega)) (show 1 ≤ (8 : Int) ∧ (8 : Int) ≤ 8 by omega) (show 0 ≤ (m190.1 207) ∧ (m190.1 207) ≤ 4001 by omega)) (fun rr267 k268 => ?_)
              rcases k268 with ⟨m269, Tm269, Fm269, h270, rfl⟩ | ⟨xx273, m271, hx272, Tm271, Fm271, rfl⟩
              rotate_left
              · skip
                refine Or.inr ⟨_, _, _, _, rfl, ?_⟩
                exact Or.inr ⟨xx273, (mO m271 [] []), (hx272), Tm271, (fr_m (fr_s Fm271 (fr_m (fr_s Fm226 (fr_m (fr_s Fm190 (fr_m (fr_s Fm174 (fr_m (fr_s Fm163 (fr_m fr_0 rfl rfl) rfl rfl) rfl rfl) rfl rfl) rfl rfl) rfl rfl) rfl rfl) rfl rfl) rfl rfl) rfl rfl) rfl rfl), (show NKp (m271.2 18) (m271.2 19) by rewrite [(show (m271.2 18) = (m174.2 18) from ((fr2 Fm271 18 rfl).trans ((fr2 Fm226 18 rfl).trans (fr2 Fm190 18 rfl)))), (show (m271.2 19) = (m174.2 19) from ((fr2 Fm271 19 rfl).trans ((fr2 Fm226 19 rfl).trans (fr2 Fm190 19 rfl))))]; exact hNK), rfl⟩
              exact h270.elim
        · skip
          refine T_ld 138 (.int (i32 (m190.1 206))) rfl (fun _ => rfl) ?_
          refine T_ld 141 (.int (i32 314)) rfl (fun _ => rfl) ?_
          refine T_icmp 151 144 rfl rfl rfl (r32 (by omega) (by omega)) ⟨by decide, by decide⟩ (fun (h274 : (m190.1 206) = 314) => ?_) (fun (h274 : ¬ ((m190.1 206) = 314)) => ?_)
          · skip
            refine T_ld 152 (.ref 178) rfl (fun _ => rfl) ?_
            refine K_gf 155 (.ref 6) rfl rfl kd_178 rfl rfl rfl ?_
            refine T_callx 158 50 [.ref 6] [] rfl (fun _ => rfl) rfl rfl (c_tx_advance w (mO m190 [] []) c N D (by omega) Tm190 ) (fun rr275 k276 => ?_)
            rcases k276 with ⟨m277, Tm277, Fm277, h278, rfl⟩ | ⟨xx281, m279, hx280, Tm279, Fm279, rfl⟩
            rotate_left
            · skip
              refine Or.inr ⟨_, _, _, _, rfl, ?_⟩
              exact Or.inr ⟨xx281, (mO m279 [] []), (hx280), Tm279, (fr_m (fr_s Fm279 (fr_m (fr_s Fm190 (fr_m (fr_s Fm174 (fr_m (fr_s Fm163 (fr_m fr_0 rfl rfl) rfl rfl) rfl rfl) rfl rfl) rfl rfl) rfl rfl) rfl rfl) rfl rfl) rfl rfl), (show NKp (m279.2 18) (m279.2 19) by rewrite [(show (m279.2 18) = (m174.2 18) from ((fr2 Fm279 18 rfl).trans (fr2 Fm190 18 rfl))), (show (m279.2 19) = (m174.2 19) from ((fr2 Fm279 19 rfl).trans (fr2 Fm190 19 rfl)))]; exact hNK), rfl⟩
            refine Or.inl ⟨_, _, _, _, rfl, ?_⟩
            refine K_nb (st' := []) rfl ?_
            have g282 : (-1) ≤ m277.1 206 ∧ m277.1 206 ≤ 65535 := Tm277.1 206
            have g283 : 0 ≤ m277.1 207 ∧ m277.1 207 ≤ 4001 := Tm277.1 207
            replace h278 : (m190.1 213) = 0 := h278
            rewrite [(show (m190.1 213) = (m174.1 213) from (fr1 Fm190 213 rfl))] at h278
            refine T_ld 160 (.int (i32 (m190.1 206))) rfl (fun _ => rfl) ?_
            refine T_ld 163 (.int (i32 312)) rfl (fun _ => rfl) ?_
            refine T_icmp 176 166 rfl rfl rfl (r32 (by omega) (by omega)) ⟨by decide, by decide⟩ (fun (h284 : (m190.1 206) = 312) => by exfalso; omega) (fun (h284 : ¬ ((m190.1 206) = 312)) => ?_)
            refine T_ld 167 (.ref (tbr t)) rfl (fun _ => rfl) ?_
            refine T_ld 170 (.int (i32 313)) rfl (fun _ => rfl) ?_
            refine T_callx 173 130 [.ref (tbr t), .int (i32 313)] [] rfl (inv_vt (args := [.int (i32 313)]) (khp_t0 _ (by omega) (by omega)) rfl rfl rfl) rfl rfl (c_tb_hasKey w (mO m277 [] []) c N D (by omega) Tm277 t 313 (r32 (by omega) (by omega)) ⟨by decide, by decide⟩ (show 0 ≤ t ∧ t ≤ 7 by omega)) (fun rr285 k286 => ?_)
            obtain ⟨x287, g288, rfl⟩ := k286
            refine Or.inl ⟨_, _, _, _, rfl, ?_⟩
            refine T_ns (st' := [.int (i32 x287)]) rfl ?_
            obtain ⟨g288a, g288b⟩ := g288
            refine T_if 194 176 rfl rfl rfl (r32 (by omega) (by omega)) (fun (h289 : x287 ≠ 0) => ?_) (fun (h289 : ¬ (x287 ≠ 0)) => ?_)
            · skip
              refine T_ld 195 (.int (i32 1)) rfl (fun _ => rfl) ?_
              refine T_goto 199 rfl (fun _ => rfl) ?_
              refine T_sto 201 [(6, .int (i32 1)), (5, .int (i32 (m190.1 207))), (4, .int (i32 (m190.1 206))), (3, .int (i32 ro)), (0, .ref 178), (1, .ref (tbr t)), (2, .int (i32 i))] rfl (fun _ => rfl) ?_
              refine T_ld 203 (.int (i32 1)) rfl (fun _ => rfl) ?_
              refine T_if 217 206 rfl rfl rfl ⟨by decide, by decide⟩ (fun h290 => absurd (show (1 : Int) = 0 from h290) (by decide)) (fun _ => ?_)
              refine T_ld 207 (.ref 178) rfl (fun _ => rfl) ?_
              refine K_gf 210 (.ref 6) rfl rfl kd_178 rfl rfl rfl ?_
              refine T_ld 212 (.int (i32 8)) rfl (fun _ => rfl) ?_
              refine T_ld 214 (.int (i32 (m190.1 207))) rfl (fun _ => rfl) ?_
              refine T_callx 217 51 [.ref 6, .int (i32 8), .int (i32 (m190.1 207))] [] rfl (fun _ => rfl) rfl rfl (c_tx_fail w (mO m277 [] []) c N D (by omega) Tm277 8 (m190.1 207) ⟨by decide, by decide⟩ (r32 (by omega) (by omega)) (show 1 ≤ (8 : Int) ∧ (8 : Int) ≤ 8 by omega) (show 0 ≤ (m190.1 207) ∧ (m190.1 207) ≤ 4001 by omega)) (fun rr291 k292 => ?_)
              rcases k292 with ⟨m293, Tm293, Fm293, h294, rfl⟩ | ⟨xx297, m295, hx296, Tm295, Fm295, rfl⟩
              rotate_left
              · skip
                refine Or.inr ⟨_, _, _, _, rfl, ?_⟩
                exact Or.inr ⟨xx297, (mO m295 [] []), (hx296), Tm295, (fr_m (fr_s Fm295 (fr_m (fr_s Fm277 (fr_m (fr_s Fm190 (fr_m (fr_s Fm174 (fr_m (fr_s Fm163 (fr_m fr_0 rfl rfl) rfl rfl) rfl rfl) rfl rfl) rfl rfl) rfl rfl) rfl rfl) rfl rfl) rfl rfl) rfl rfl) rfl rfl), (show NKp (m295.2 18) (m295.2 19) by rewrite [(show (m295.2 18) = (m174.2 18) from ((fr2 Fm295 18 rfl).trans ((fr2 Fm277 18 rfl).trans (fr2 Fm190 18 rfl)))), (show (m295.2 19) = (m174.2 19) from ((fr2 Fm295 19 rfl).trans ((fr2 Fm277 19 rfl).trans (fr2 Fm190 19 rfl))))]; exact hNK), rfl⟩
              exact h294.elim
            · skip
              refine T_ld 178 (.int (i32 (m190.1 206))) rfl (fun _ => rfl) ?_
              refine T_ld 181 (.int (i32 313)) rfl (fun _ => rfl) ?_
              refine T_icmp 198 184 rfl rfl rfl (r32 (by omega) (by omega)) ⟨by decide, by decide⟩ (fun (h298 : (m190.1 206) ≠ 313) => ?_) (fun (h298 : ¬ ((m190.1 206) ≠ 313)) => by exfalso; omega)
              refine T_ld 199 (.int (i32 0)) rfl (fun _ => rfl) ?_
              refine T_sto 201 [(6, .int (i32 0)), (5, .int (i32 (m190.1 207))), (4, .int (i32 (m190.1 206))), (3, .int (i32 ro)), (0, .ref 178), (1, .ref (tbr t)), (2, .int (i32 i))] rfl (fun _ => rfl) ?_
              refine T_ld 203 (.int (i32 0)) rfl (fun _ => rfl) ?_
              refine T_if 217 206 rfl rfl rfl ⟨by decide, by decide⟩ (fun _ => ?_) (fun h299 => absurd (show (0 : Int) = 0 by decide) h299)
              refine T_ld 218 (.ref (tbr t)) rfl (fun _ => rfl) ?_
              refine K_gfr 221 rfl rfl (by omega) (by omega) rfl ?_
              refine T_ld 222 (.int (i32 i)) rfl (fun _ => rfl) ?_
              refine T_ld 224 (.int (i32 (m190.1 206))) rfl (fun _ => rfl) ?_
              have G300 : ∀ j, 0 ≤ (upI (m.2 81) (65536 * t + i) (m190.1 206)) j ∧ (upI (m.2 81) (65536 * t + i) (m190.1 206)) j ≤ 330 := upI_rg (hT.2.1 81) ⟨by omega, by omega⟩
              refine K_iastt (a' := [(81, upI (m.2 81) (65536 * t + i) (m190.1 206))]) 225 2 (m.2 81) rfl rfl rfl (by omega) (by omega) (by omega) (show i < (4 : Int) by omega) (show (m277.2 81) = (m.2 81) from ((fr2 Fm277 81 rfl).trans ((fr2 Fm190 81 rfl).trans ((fr2 Fm174 81 rfl).trans (fr2 Fm163 81 rfl))))) rfl ?_
              refine T_ld 226 (.ref (tbr t)) rfl (fun _ => rfl) ?_
              refine T_ld 227 (.int (i32 i)) rfl (fun _ => rfl) ?_
              refine T_ld 228 (.int (i32 1)) rfl (fun _ => rfl) ?_
              refine T_iadd 229 rfl rfl ?_
              have G301 : ∀ j, 0 ≤ (upI (m.2 72) t (i + 1)) j ∧ (upI (m.2 72) t (i + 1)) j ≤ 4 := upI_rg (hT.2.1 72) ⟨by omega, by omega⟩
              refine K_pfi (a' := [(72, upI (m.2 72) t (i + 1)), (81, upI (m.2 81) (65536 * t + i) (m190.1 206))]) 232 72 (m.2 72) rfl rfl rfl (by omega) (by omega) (show (m277.2 72) = (m.2 72) from ((fr2 Fm277 72 rfl).trans ((fr2 Fm190 72 rfl).trans ((fr2 Fm174 72 rfl).trans (fr2 Fm163 72 rfl))))) rfl rfl ?_
              refine T_ld 233 (.ref 178) rfl (fun _ => rfl) ?_
              refine K_gf 236 (.ref 6) rfl rfl kd_178 rfl rfl rfl ?_
              refine T_ld 238 (.int (i32 59)) rfl (fun _ => rfl) ?_
              refine T_callx 241 78 [.ref 6, .int (i32 59)] [] rfl (fun _ => rfl) rfl rfl (c_tx_expect w (mO m277 [] [(72, upI (m.2 72) t (i + 1)), (81, upI (m.2 81) (65536 * t + i) (m190.1 206))]) c N D (by omega) (KTy_mO Tm277 rfl rfl trivial ⟨G301, G300, trivial⟩) 59 ⟨by decide, by decide⟩) (fun rr302 k303 => ?_)
              rcases k303 with ⟨m304, Tm304, Fm304, h305, h306, rfl⟩ | ⟨xx309, m307, hx308, Tm307, Fm307, rfl⟩
              rotate_left
              · skip
                refine Or.inr ⟨_, _, _, _, rfl, ?_⟩
                exact Or.inr ⟨xx309, (mO m307 [] []), (hx308), Tm307, (fr_m (fr_s Fm307 (fr_m (fr_s Fm277 (fr_m (fr_s Fm190 (fr_m (fr_s Fm174 (fr_m (fr_s Fm163 (fr_m fr_0 rfl rfl) rfl rfl) rfl rfl) rfl rfl) rfl rfl) rfl rfl) rfl rfl) rfl rfl) rfl rfl) rfl rfl) rfl rfl), (show NKp (m307.2 18) (m307.2 19) by rewrite [(show (m307.2 18) = (m174.2 18) from ((fr2 Fm307 18 rfl).trans ((fr2 Fm277 18 rfl).trans (fr2 Fm190 18 rfl)))), (show (m307.2 19) = (m174.2 19) from ((fr2 Fm307 19 rfl).trans ((fr2 Fm277 19 rfl).trans (fr2 Fm190 19 rfl))))]; exact hNK), rfl⟩
              refine Or.inl ⟨_, _, _, _, rfl, ?_⟩
              refine K_nb (st' := []) rfl ?_
              have g310 : (-1) ≤ m304.1 206 ∧ m304.1 206 ≤ 65535 := Tm304.1 206
              have g311 : 0 ≤ m304.1 207 ∧ m304.1 207 ≤ 4001 := Tm304.1 207
              replace h305 : (m277.1 206) = (59 : Int) := h305
              replace h306 : (m277.1 213) = 0 := h306
              rewrite [(show (m277.1 213) = (m174.1 213) from ((fr1 Fm277 213 rfl).trans (fr1 Fm190 213 rfl)))] at h306
              refine T_ret rfl (fun _ => rfl) ?_
              exact Or.inl ⟨(mO m304 [] []), Tm304, (fr_m (fr_s Fm304 (fr_m (fr_s Fm277 (fr_m (fr_s Fm190 (fr_m (fr_s Fm174 (fr_m (fr_s Fm163 (fr_m fr_0 rfl rfl) rfl rfl) rfl rfl) rfl rfl) rfl rfl) rfl rfl) rfl rfl) rfl rfl) rfl rfl) rfl rfl) rfl rfl), (show NKp (m304.2 18) (m304.2 19) by rewrite [(show (m304.2 18) = (m174.2 18) from ((fr2 Fm304 18 rfl).trans ((fr2 Fm277 18 rfl).trans (fr2 Fm190 18 rfl)))), (show (m304.2 19) = (m174.2 19) from ((fr2 Fm304 19 rfl).trans ((fr2 Fm277 19 rfl).trans (fr2 Fm190 19 rfl))))]; first | (exact hNK) | (exfalso; omega)), rfl⟩
          · skip
            refine T_ld 145 (.ref 178) rfl (fun _ => rfl) ?_
            refine K_gf 148 (.ref 6) rfl rfl kd_178 rfl rfl rfl ?_
            refine T_callx 151 76 [.ref 6] [] rfl (fun _ => rfl) rfl rfl (c_tx_refuse w (mO m190 [] []) c N D (by omega) Tm190 ) (fun rr312 k313 => ?_)
            rcases k313 with ⟨m314, Tm314, Fm314, h315, rfl⟩ | ⟨xx318, m316, hx317, Tm316, Fm316, rfl⟩
            rotate_left
            · skip
              refine Or.inr ⟨_, _, _, _, rfl, ?_⟩
              exact Or.inr ⟨xx318, (mO m316 [] []), (hx317), Tm316, (fr_m (fr_s Fm316 (fr_m (fr_s Fm190 (fr_m (fr_s Fm174 (fr_m (fr_s Fm163 (fr_m fr_0 rfl rfl) rfl rfl) rfl rfl) rfl rfl) rfl rfl) rfl rfl) rfl rfl) rfl rfl) rfl rfl), (show NKp (m316.2 18) (m316.2 19) by rewrite [(show (m316.2 18) = (m174.2 18) from ((fr2 Fm316 18 rfl).trans (fr2 Fm190 18 rfl))), (show (m316.2 19) = (m174.2 19) from ((fr2 Fm316 19 rfl).trans (fr2 Fm190 19 rfl)))]; exact hNK), rfl⟩
            exact h315.elim
    · skip
      refine T_ld 19 (.ref 178) rfl (fun _ => rfl) ?_
      refine K_gf 22 (.ref 6) rfl rfl kd_178 rfl rfl rfl ?_
      refine T_ld 23 (.int (i32 4)) rfl (fun _ => rfl) ?_
      refine T_ld 24 (.ref 178) rfl (fun _ => rfl) ?_
      refine K_gf 27 (.ref 6) rfl rfl kd_178 rfl rfl rfl ?_
      refine K_gf 30 (.int (i32 (m.1 207))) rfl rfl kd_6 rfl rfl rfl ?_
      refine T_callx 33 51 [.ref 6, .int (i32 4), .int (i32 (m.1 207))] [] rfl (fun _ => rfl) rfl rfl (c_tx_fail w (mO m [] []) c N D (by omega) hT 4 (m.1 207) ⟨by decide, by decide⟩ (r32 (by omega) (by omega)) (show 1 ≤ (4 : Int) ∧ (4 : Int) ≤ 8 by omega) (show 0 ≤ (m.1 207) ∧ (m.1 207) ≤ 4001 by omega)) (fun rr319 k320 => ?_)
      rcases k320 with ⟨m321, Tm321, Fm321, h322, rfl⟩ | ⟨xx325, m323, hx324, Tm323, Fm323, rfl⟩
      rotate_left
      · skip
        refine Or.inr ⟨_, _, _, _, rfl, ?_⟩
        exact Or.inr ⟨xx325, (mO m323 [] []), (hx324), Tm323, (fr_m (fr_s Fm323 (fr_m fr_0 rfl rfl) rfl rfl) rfl rfl), (show NKp (m323.2 18) (m323.2 19) by rewrite [(show (m323.2 18) = (m.2 18) from (fr2 Fm323 18 rfl)), (show (m323.2 19) = (m.2 19) from (fr2 Fm323 19 rfl))]; exact hNK), rfl⟩
      exact h322.elim
def fF_rd_listedAction : List Nat := [205, 206, 207, 208, 209, 210, 211, 212]
def fA_rd_listedAction : List Nat := [73, 83]
def Q_rd_listedAction (m : mR) (c : Nat → Option am_C) (N : Nat) (t : Int) (i : Int) : ag_Re af_T → Prop := fun R => (∃ (M : mR), KTy M ∧ fr fF_rd_listedAction fA_rd_listedAction m M ∧ ((M.2 73) t = i + 1) ∧ (TLp (m.1 219) (M.2 73) (M.2 83) (m.1 223)) ∧ R = (.inl (none), (khp M c, N), 0, 0)) ∨ (∃ (x : Nat) (M : mR), (x = 0) ∧ (KTy M) ∧ (fr fF_rd_listedAction fA_rd_listedAction m M) ∧ R = (.inr x, (khp M c, N), 1, 6))
set_option maxHeartbeats 3000000 in
theorem c_rd_listedAction (w : wX) (m : mR) (c : Nat → Option am_C) (N D : Nat) (hD : 9 ≤ D) (hT : KTy m) (t : Int) (i : Int) (qt : R32 t) (qi : R32 i) (pKP : KPp (m.1 203) (m.2 8) (m.2 9) (m.1 214) (m.1 215) (m.1 216) (m.1 217) (m.1 221) (m.1 223) (m.1 219)) (p1 : 0 ≤ t ∧ t ≤ 7) (p2 : 0 ≤ i ∧ i ≤ 8) (p3 : (m.2 73) t = i) (hTL : TLp (m.1 219) (m.2 73) (m.2 83) (m.1 223)) : TC w D 131 [.ref 178, .ref (tbr t), .int (i32 i)] (khp m c, N) (Q_rd_listedAction m c N t i) := by
  obtain ⟨D, rfl⟩ : ∃ k, D = k + 1 := ⟨D - 1, by omega⟩
  obtain ⟨qta, qtb⟩ := id qt
  obtain ⟨qia, qib⟩ := id qi
  have f206 : (-1) ≤ m.1 206 ∧ m.1 206 ≤ 65535 := hT.1 206
  have f207 : 0 ≤ m.1 207 ∧ m.1 207 ≤ 4001 := hT.1 207
  have f203 : 0 ≤ m.1 203 ∧ m.1 203 ≤ 90 := hT.1 203
  have f213 : 0 ≤ m.1 213 ∧ m.1 213 ≤ 1 := hT.1 213
  have f214 : 0 ≤ m.1 214 ∧ m.1 214 ≤ 12 := hT.1 214
  have f215 : 0 ≤ m.1 215 ∧ m.1 215 ≤ 12 := hT.1 215
  have f216 : 0 ≤ m.1 216 ∧ m.1 216 ≤ 16 := hT.1 216
  have f217 : 0 ≤ m.1 217 ∧ m.1 217 ≤ 8 := hT.1 217
  have f219 : 0 ≤ m.1 219 ∧ m.1 219 ≤ 8 := hT.1 219
  have f221 : 0 ≤ m.1 221 ∧ m.1 221 ≤ 16 := hT.1 221
  have f223 : 0 ≤ m.1 223 ∧ m.1 223 ≤ 16 := hT.1 223
  refine Tc_of rfl ?_
  rw [show (khp m c, N) = (khp (mO m [] []) c, N) from by rw [mO_nil m]]
  show TT w D pm_131 (0, [(0, .ref 178), (1, .ref (tbr t)), (2, .int (i32 i))], [], (khp (mO m [] []) c, N), 0, 0) (Q_rd_listedAction m c N t i)
  refine T_ld 1 (.ref 178) rfl (fun _ => rfl) ?_
  refine K_gf 4 (.ref 6) rfl rfl kd_178 rfl rfl rfl ?_
  refine K_gf 7 (.int (i32 (m.1 207))) rfl rfl kd_6 rfl rfl rfl ?_
  refine T_sto 8 [(3, .int (i32 (m.1 207))), (0, .ref 178), (1, .ref (tbr t)), (2, .int (i32 i))] rfl (fun _ => rfl) ?_
  refine T_ld 9 (.ref 178) rfl (fun _ => rfl) ?_
  refine K_gf 12 (.ref 6) rfl rfl kd_178 rfl rfl rfl ?_
  refine K_gf 15 (.int (i32 (m.1 206))) rfl rfl kd_6 rfl rfl rfl ?_
  refine T_ld 18 (.int (i32 256)) rfl (fun _ => rfl) ?_
  refine T_icmp 36 21 rfl rfl rfl (r32 (by omega) (by omega)) ⟨by decide, by decide⟩ (fun (h1 : (m.1 206) ≠ 256) => ?_) (fun (h1 : ¬ ((m.1 206) ≠ 256)) => ?_)
  · skip
    refine T_ld 37 (.ref 178) rfl (fun _ => rfl) ?_
    refine K_gf 40 (.ref 6) rfl rfl kd_178 rfl rfl rfl ?_
    refine T_ld 43 (.int (i32 309)) rfl (fun _ => rfl) ?_
    refine T_callx 46 83 [.ref 6, .int (i32 309)] [] rfl (fun _ => rfl) rfl rfl (c_tx_known w (mO m [] []) c N D (by omega) hT 309 ⟨by decide, by decide⟩) (fun rr2 k3 => ?_)
    rcases k3 with ⟨m4, kn, Tm4, Fm4, g5, h6, h7, h8, rfl⟩ | ⟨xx11, m9, hx10, Tm9, Fm9, rfl⟩
    rotate_left
    · skip
      refine Or.inr ⟨_, _, _, _, rfl, ?_⟩
      exact Or.inr ⟨xx11, (mO m9 [] []), (hx10), Tm9, (fr_m (fr_s Fm9 (fr_m fr_0 rfl rfl) rfl rfl) rfl rfl), rfl⟩
    refine Or.inl ⟨_, _, _, _, rfl, ?_⟩
    refine K_nb (st' := [.int (i32 kn)]) rfl ?_
    obtain ⟨g5a, g5b⟩ := g5
    have g12 : (-1) ≤ m4.1 206 ∧ m4.1 206 ≤ 65535 := Tm4.1 206
    have g13 : 0 ≤ m4.1 207 ∧ m4.1 207 ≤ 4001 := Tm4.1 207
    replace h6 : KNo (m.1 203) (m.2 8) (m.2 9) (309 : Int) kn := h6
    have hKn := h6
    replace h7 : (m.1 213) = 0 := h7
    replace h8 : (m.1 206) = 256 := h8
    have hkn := KNo_w pKP hKn
    refine T_sto 48 [(4, .int (i32 kn)), (3, .int (i32 (m.1 207))), (0, .ref 178), (1, .ref (tbr t)), (2, .int (i32 i))] rfl (fun _ => rfl) ?_
    refine T_ld 49 (.ref (tbr t)) rfl (fun _ => rfl) ?_
    refine T_ld 51 (.int (i32 kn)) rfl (fun _ => rfl) ?_
    refine T_callx 54 132 [.ref (tbr t), .int (i32 kn)] [] rfl (inv_vt (args := [.int (i32 kn)]) (khp_t0 _ (by omega) (by omega)) rfl rfl rfl) rfl rfl (c_tb_lists w (mO m4 [] []) c N D (by omega) Tm4 t kn (r32 (by omega) (by omega)) (r32 (by omega) (by omega)) (show 0 ≤ t ∧ t ≤ 7 by omega)) (fun rr14 k15 => ?_)
    obtain ⟨x16, g17, h18, rfl⟩ := k15
    refine Or.inl ⟨_, _, _, _, rfl, ?_⟩
    refine T_ns (st' := [.int (i32 x16)]) rfl ?_
    obtain ⟨g17a, g17b⟩ := g17
    replace h18 : x16 = 1 → LSp t ((m4.2 73) t) kn (m4.2 83) := h18
    rewrite [(show (m4.2 73) = (m.2 73) from (fr2 Fm4 73 rfl)), (show (m4.2 83) = (m.2 83) from (fr2 Fm4 83 rfl))] at h18
    have hLS := h18
    refine T_if 67 57 rfl rfl rfl (r32 (by omega) (by omega)) (fun (h19 : x16 = 0) => ?_) (fun (h19 : ¬ (x16 = 0)) => ?_)
    · skip
      refine T_ld 68 (.ref (tbr t)) rfl (fun _ => rfl) ?_
      refine K_gfr 71 rfl rfl (by omega) (by omega) rfl ?_
      refine T_ld 72 (.int (i32 i)) rfl (fun _ => rfl) ?_
      refine T_ld 74 (.int (i32 kn)) rfl (fun _ => rfl) ?_
      have G20 : ∀ j, 0 ≤ (upI (m.2 83) (65536 * t + i) kn) j ∧ (upI (m.2 83) (65536 * t + i) kn) j ≤ 15 := upI_rg (hT.2.1 83) ⟨by omega, by omega⟩
      refine K_iastt (a' := [(83, upI (m.2 83) (65536 * t + i) kn)]) 75 4 (m.2 83) rfl rfl rfl (by omega) (by omega) (by omega) (show i < (8 : Int) by omega) (show (m4.2 83) = (m.2 83) from (fr2 Fm4 83 rfl)) rfl ?_
      refine T_ld 76 (.ref (tbr t)) rfl (fun _ => rfl) ?_
      refine T_ld 77 (.int (i32 i)) rfl (fun _ => rfl) ?_
      refine T_ld 78 (.int (i32 1)) rfl (fun _ => rfl) ?_
      refine T_iadd 79 rfl rfl ?_
      have G21 : ∀ j, 0 ≤ (upI (m.2 73) t (i + 1)) j ∧ (upI (m.2 73) t (i + 1)) j ≤ 8 := upI_rg (hT.2.1 73) ⟨by omega, by omega⟩
      refine K_pfi (a' := [(73, upI (m.2 73) t (i + 1)), (83, upI (m.2 83) (65536 * t + i) kn)]) 82 73 (m.2 73) rfl rfl rfl (by omega) (by omega) (show (m4.2 73) = (m.2 73) from (fr2 Fm4 73 rfl)) rfl rfl ?_
      refine T_ret rfl (fun _ => rfl) ?_
      exact Or.inl ⟨(mO m4 [] [(73, upI (m.2 73) t (i + 1)), (83, upI (m.2 83) (65536 * t + i) kn)]), (KTy_mO Tm4 rfl rfl trivial ⟨G21, G20, trivial⟩), (fr_m (fr_s Fm4 (fr_m fr_0 rfl rfl) rfl rfl) rfl rfl), (show (upI (m.2 73) t (i + 1)) t = i + 1 by first | (exact upI_s) | (exfalso; omega)), (show TLp (m.1 219) (upI (m.2 73) t (i + 1)) (upI (m.2 83) (65536 * t + i) kn) (m.1 223) by first | (exact TL_ad hTL (by omega) (by omega) (by omega) (by omega) (fun u => (hT.2.1 73 u).2) (by omega) rfl) | (exfalso; omega)), rfl⟩
    · skip
      refine T_ld 58 (.ref 178) rfl (fun _ => rfl) ?_
      refine K_gf 61 (.ref 6) rfl rfl kd_178 rfl rfl rfl ?_
      refine T_ld 63 (.int (i32 8)) rfl (fun _ => rfl) ?_
      refine T_ld 64 (.int (i32 (m.1 207))) rfl (fun _ => rfl) ?_
      refine T_callx 67 51 [.ref 6, .int (i32 8), .int (i32 (m.1 207))] [] rfl (fun _ => rfl) rfl rfl (c_tx_fail w (mO m4 [] []) c N D (by omega) Tm4 8 (m.1 207) ⟨by decide, by decide⟩ (r32 (by omega) (by omega)) (show 1 ≤ (8 : Int) ∧ (8 : Int) ≤ 8 by omega) (show 0 ≤ (m.1 207) ∧ (m.1 207) ≤ 4001 by omega)) (fun rr22 k23 => ?_)
      rcases k23 with ⟨m24, Tm24, Fm24, h25, rfl⟩ | ⟨xx28, m26, hx27, Tm26, Fm26, rfl⟩
      rotate_left
      · skip
        refine Or.inr ⟨_, _, _, _, rfl, ?_⟩
        exact Or.inr ⟨xx28, (mO m26 [] []), (hx27), Tm26, (fr_m (fr_s Fm26 (fr_m (fr_s Fm4 (fr_m fr_0 rfl rfl) rfl rfl) rfl rfl) rfl rfl) rfl rfl), rfl⟩
      exact h25.elim
  · skip
    refine T_ld 22 (.int (i32 i)) rfl (fun _ => rfl) ?_
    refine T_ld 24 (.int (i32 8)) rfl (fun _ => rfl) ?_
    refine T_icmp 36 27 rfl rfl rfl (r32 (by omega) (by omega)) ⟨by decide, by decide⟩ (fun (h29 : i < 8) => ?_) (fun (h29 : ¬ (i < 8)) => ?_)
    · skip
      refine T_ld 37 (.ref 178) rfl (fun _ => rfl) ?_
      refine K_gf 40 (.ref 6) rfl rfl kd_178 rfl rfl rfl ?_
      refine T_ld 43 (.int (i32 309)) rfl (fun _ => rfl) ?_
      refine T_callx 46 83 [.ref 6, .int (i32 309)] [] rfl (fun _ => rfl) rfl rfl (c_tx_known w (mO m [] []) c N D (by omega) hT 309 ⟨by decide, by decide⟩) (fun rr30 k31 => ?_)
      rcases k31 with ⟨m32, kn, Tm32, Fm32, g33, h34, h35, h36, rfl⟩ | ⟨xx39, m37, hx38, Tm37, Fm37, rfl⟩
      rotate_left
      · skip
        refine Or.inr ⟨_, _, _, _, rfl, ?_⟩
        exact Or.inr ⟨xx39, (mO m37 [] []), (hx38), Tm37, (fr_m (fr_s Fm37 (fr_m fr_0 rfl rfl) rfl rfl) rfl rfl), rfl⟩
      refine Or.inl ⟨_, _, _, _, rfl, ?_⟩
      refine K_nb (st' := [.int (i32 kn)]) rfl ?_
      obtain ⟨g33a, g33b⟩ := g33
      have g40 : (-1) ≤ m32.1 206 ∧ m32.1 206 ≤ 65535 := Tm32.1 206
      have g41 : 0 ≤ m32.1 207 ∧ m32.1 207 ≤ 4001 := Tm32.1 207
      replace h34 : KNo (m.1 203) (m.2 8) (m.2 9) (309 : Int) kn := h34
      have hKn := h34
      replace h35 : (m.1 213) = 0 := h35
      replace h36 : (m.1 206) = 256 := h36
      have hkn := KNo_w pKP hKn
      refine T_sto 48 [(4, .int (i32 kn)), (3, .int (i32 (m.1 207))), (0, .ref 178), (1, .ref (tbr t)), (2, .int (i32 i))] rfl (fun _ => rfl) ?_
      refine T_ld 49 (.ref (tbr t)) rfl (fun _ => rfl) ?_
      refine T_ld 51 (.int (i32 kn)) rfl (fun _ => rfl) ?_
      refine T_callx 54 132 [.ref (tbr t), .int (i32 kn)] [] rfl (inv_vt (args := [.int (i32 kn)]) (khp_t0 _ (by omega) (by omega)) rfl rfl rfl) rfl rfl (c_tb_lists w (mO m32 [] []) c N D (by omega) Tm32 t kn (r32 (by omega) (by omega)) (r32 (by omega) (by omega)) (show 0 ≤ t ∧ t ≤ 7 by omega)) (fun rr42 k43 => ?_)
      obtain ⟨x44, g45, h46, rfl⟩ := k43
      refine Or.inl ⟨_, _, _, _, rfl, ?_⟩
      refine T_ns (st' := [.int (i32 x44)]) rfl ?_
      obtain ⟨g45a, g45b⟩ := g45
      replace h46 : x44 = 1 → LSp t ((m32.2 73) t) kn (m32.2 83) := h46
      rewrite [(show (m32.2 73) = (m.2 73) from (fr2 Fm32 73 rfl)), (show (m32.2 83) = (m.2 83) from (fr2 Fm32 83 rfl))] at h46
      have hLS := h46
      refine T_if 67 57 rfl rfl rfl (r32 (by omega) (by omega)) (fun (h47 : x44 = 0) => ?_) (fun (h47 : ¬ (x44 = 0)) => ?_)
      · skip
        refine T_ld 68 (.ref (tbr t)) rfl (fun _ => rfl) ?_
        refine K_gfr 71 rfl rfl (by omega) (by omega) rfl ?_
        refine T_ld 72 (.int (i32 i)) rfl (fun _ => rfl) ?_
        refine T_ld 74 (.int (i32 kn)) rfl (fun _ => rfl) ?_
        have G48 : ∀ j, 0 ≤ (upI (m.2 83) (65536 * t + i) kn) j ∧ (upI (m.2 83) (65536 * t + i) kn) j ≤ 15 := upI_rg (hT.2.1 83) ⟨by omega, by omega⟩
        refine K_iastt (a' := [(83, upI (m.2 83) (65536 * t + i) kn)]) 75 4 (m.2 83) rfl rfl rfl (by omega) (by omega) (by omega) (show i < (8 : Int) by omega) (show (m32.2 83) = (m.2 83) from (fr2 Fm32 83 rfl)) rfl ?_
        refine T_ld 76 (.ref (tbr t)) rfl (fun _ => rfl) ?_
        refine T_ld 77 (.int (i32 i)) rfl (fun _ => rfl) ?_
        refine T_ld 78 (.int (i32 1)) rfl (fun _ => rfl) ?_
        refine T_iadd 79 rfl rfl ?_
        have G49 : ∀ j, 0 ≤ (upI (m.2 73) t (i + 1)) j ∧ (upI (m.2 73) t (i + 1)) j ≤ 8 := upI_rg (hT.2.1 73) ⟨by omega, by omega⟩
        refine K_pfi (a' := [(73, upI (m.2 73) t (i + 1)), (83, upI (m.2 83) (65536 * t + i) kn)]) 82 73 (m.2 73) rfl rfl rfl (by omega) (by omega) (show (m32.2 73) = (m.2 73) from (fr2 Fm32 73 rfl)) rfl rfl ?_
        refine T_ret rfl (fun _ => rfl) ?_
        exact Or.inl ⟨(mO m32 [] [(73, upI (m.2 73) t (i + 1)), (83, upI (m.2 83) (65536 * t + i) kn)]), (KTy_mO Tm32 rfl rfl trivial ⟨G49, G48, trivial⟩), (fr_m (fr_s Fm32 (fr_m fr_0 rfl rfl) rfl rfl) rfl rfl), (show (upI (m.2 73) t (i + 1)) t = i + 1 by first | (exact upI_s) | (exfalso; omega)), (show TLp (m.1 219) (upI (m.2 73) t (i + 1)) (upI (m.2 83) (65536 * t + i) kn) (m.1 223) by first | (exact TL_ad hTL (by omega) (by omega) (by omega) (by omega) (fun u => (hT.2.1 73 u).2) (by omega) rfl) | (exfalso; omega)), rfl⟩
      · skip
        refine T_ld 58 (.ref 178) rfl (fun _ => rfl) ?_
        refine K_gf 61 (.ref 6) rfl rfl kd_178 rfl rfl rfl ?_
        refine T_ld 63 (.int (i32 8)) rfl (fun _ => rfl) ?_
        refine T_ld 64 (.int (i32 (m.1 207))) rfl (fun _ => rfl) ?_
        refine T_callx 67 51 [.ref 6, .int (i32 8), .int (i32 (m.1 207))] [] rfl (fun _ => rfl) rfl rfl (c_tx_fail w (mO m32 [] []) c N D (by omega) Tm32 8 (m.1 207) ⟨by decide, by decide⟩ (r32 (by omega) (by omega)) (show 1 ≤ (8 : Int) ∧ (8 : Int) ≤ 8 by omega) (show 0 ≤ (m.1 207) ∧ (m.1 207) ≤ 4001 by omega)) (fun rr50 k51 => ?_)
        rcases k51 with ⟨m52, Tm52, Fm52, h53, rfl⟩ | ⟨xx56, m54, hx55, Tm54, Fm54, rfl⟩
        rotate_left
        · skip
          refine Or.inr ⟨_, _, _, _, rfl, ?_⟩
          exact Or.inr ⟨xx56, (mO m54 [] []), (hx55), Tm54, (fr_m (fr_s Fm54 (fr_m (fr_s Fm32 (fr_m fr_0 rfl rfl) rfl rfl) rfl rfl) rfl rfl) rfl rfl), rfl⟩
        exact h53.elim
    · skip
      refine T_ld 28 (.ref 178) rfl (fun _ => rfl) ?_
      refine K_gf 31 (.ref 6) rfl rfl kd_178 rfl rfl rfl ?_
      refine T_ld 32 (.int (i32 4)) rfl (fun _ => rfl) ?_
      refine T_ld 33 (.int (i32 (m.1 207))) rfl (fun _ => rfl) ?_
      refine T_callx 36 51 [.ref 6, .int (i32 4), .int (i32 (m.1 207))] [] rfl (fun _ => rfl) rfl rfl (c_tx_fail w (mO m [] []) c N D (by omega) hT 4 (m.1 207) ⟨by decide, by decide⟩ (r32 (by omega) (by omega)) (show 1 ≤ (4 : Int) ∧ (4 : Int) ≤ 8 by omega) (show 0 ≤ (m.1 207) ∧ (m.1 207) ≤ 4001 by omega)) (fun rr57 k58 => ?_)
      rcases k58 with ⟨m59, Tm59, Fm59, h60, rfl⟩ | ⟨xx63, m61, hx62, Tm61, Fm61, rfl⟩
      rotate_left
      · skip
        refine Or.inr ⟨_, _, _, _, rfl, ?_⟩
        exact Or.inr ⟨xx63, (mO m61 [] []), (hx62), Tm61, (fr_m (fr_s Fm61 (fr_m fr_0 rfl rfl) rfl rfl) rfl rfl), rfl⟩
      exact h60.elim
def fF_rd_defaultLine : List Nat := [205, 206, 207, 208, 209, 210, 211, 212]
def fA_rd_defaultLine : List Nat := [74, 84]
def Q_rd_defaultLine (m : mR) (c : Nat → Option am_C) (N : Nat) (t : Int) : ag_Re af_T → Prop := fun R => (∃ (M : mR), KTy M ∧ fr fF_rd_defaultLine fA_rd_defaultLine m M ∧ (LTp (t + 1) (M.2 74) (m.1 223)) ∧ R = (.inl (none), (khp M c, N), 0, 0)) ∨ (∃ (x : Nat) (M : mR), (x = 0) ∧ (KTy M) ∧ (fr fF_rd_defaultLine fA_rd_defaultLine m M) ∧ R = (.inr x, (khp M c, N), 1, 6))
set_option maxHeartbeats 3000000 in
theorem c_rd_defaultLine (w : wX) (m : mR) (c : Nat → Option am_C) (N D : Nat) (hD : 10 ≤ D) (hT : KTy m) (t : Int) (qt : R32 t) (pKP : KPp (m.1 203) (m.2 8) (m.2 9) (m.1 214) (m.1 215) (m.1 216) (m.1 217) (m.1 221) (m.1 223) (m.1 219)) (p1 : 0 ≤ t ∧ t ≤ 7) (hTD : LTp t (m.2 74) (m.1 223)) : TC w D 133 [.ref 178, .ref (tbr t)] (khp m c, N) (Q_rd_defaultLine m c N t) := by
  obtain ⟨D, rfl⟩ : ∃ k, D = k + 1 := ⟨D - 1, by omega⟩
  obtain ⟨qta, qtb⟩ := id qt
  have f206 : (-1) ≤ m.1 206 ∧ m.1 206 ≤ 65535 := hT.1 206
  have f207 : 0 ≤ m.1 207 ∧ m.1 207 ≤ 4001 := hT.1 207
  have f203 : 0 ≤ m.1 203 ∧ m.1 203 ≤ 90 := hT.1 203
  have f213 : 0 ≤ m.1 213 ∧ m.1 213 ≤ 1 := hT.1 213
  have f214 : 0 ≤ m.1 214 ∧ m.1 214 ≤ 12 := hT.1 214
  have f215 : 0 ≤ m.1 215 ∧ m.1 215 ≤ 12 := hT.1 215
  have f216 : 0 ≤ m.1 216 ∧ m.1 216 ≤ 16 := hT.1 216
  have f217 : 0 ≤ m.1 217 ∧ m.1 217 ≤ 8 := hT.1 217
  have f219 : 0 ≤ m.1 219 ∧ m.1 219 ≤ 8 := hT.1 219
  have f221 : 0 ≤ m.1 221 ∧ m.1 221 ≤ 16 := hT.1 221
  have f223 : 0 ≤ m.1 223 ∧ m.1 223 ≤ 16 := hT.1 223
  refine Tc_of rfl ?_
  rw [show (khp m c, N) = (khp (mO m [] []) c, N) from by rw [mO_nil m]]
  show TT w D pm_133 (0, [(0, .ref 178), (1, .ref (tbr t))], [], (khp (mO m [] []) c, N), 0, 0) (Q_rd_defaultLine m c N t)
  refine T_ld 1 (.ref 178) rfl (fun _ => rfl) ?_
  refine K_gf 4 (.ref 6) rfl rfl kd_178 rfl rfl rfl ?_
  refine K_gf 7 (.int (i32 (m.1 207))) rfl rfl kd_6 rfl rfl rfl ?_
  refine T_sto 8 [(2, .int (i32 (m.1 207))), (0, .ref 178), (1, .ref (tbr t))] rfl (fun _ => rfl) ?_
  refine T_ld 9 (.ref 178) rfl (fun _ => rfl) ?_
  refine K_gf 12 (.ref 6) rfl rfl kd_178 rfl rfl rfl ?_
  refine T_ld 15 (.int (i32 309)) rfl (fun _ => rfl) ?_
  refine T_callx 18 83 [.ref 6, .int (i32 309)] [] rfl (fun _ => rfl) rfl rfl (c_tx_known w (mO m [] []) c N D (by omega) hT 309 ⟨by decide, by decide⟩) (fun rr1 k2 => ?_)
  rcases k2 with ⟨m3, kn, Tm3, Fm3, g4, h5, h6, h7, rfl⟩ | ⟨xx10, m8, hx9, Tm8, Fm8, rfl⟩
  rotate_left
  · skip
    refine Or.inr ⟨_, _, _, _, rfl, ?_⟩
    exact Or.inr ⟨xx10, (mO m8 [] []), (hx9), Tm8, (fr_m (fr_s Fm8 (fr_m fr_0 rfl rfl) rfl rfl) rfl rfl), rfl⟩
  refine Or.inl ⟨_, _, _, _, rfl, ?_⟩
  refine K_nb (st' := [.int (i32 kn)]) rfl ?_
  obtain ⟨g4a, g4b⟩ := g4
  have g11 : (-1) ≤ m3.1 206 ∧ m3.1 206 ≤ 65535 := Tm3.1 206
  have g12 : 0 ≤ m3.1 207 ∧ m3.1 207 ≤ 4001 := Tm3.1 207
  replace h5 : KNo (m.1 203) (m.2 8) (m.2 9) (309 : Int) kn := h5
  have hKn := h5
  replace h6 : (m.1 213) = 0 := h6
  replace h7 : (m.1 206) = 256 := h7
  have hkn := KNo_w pKP hKn
  refine T_sto 19 [(3, .int (i32 kn)), (2, .int (i32 (m.1 207))), (0, .ref 178), (1, .ref (tbr t))] rfl (fun _ => rfl) ?_
  refine T_ld 20 (.ref (tbr t)) rfl (fun _ => rfl) ?_
  refine T_ld 21 (.int (i32 kn)) rfl (fun _ => rfl) ?_
  have G13 : ∀ j, 0 ≤ (upI (m.2 74) t kn) j ∧ (upI (m.2 74) t kn) j ≤ 15 := upI_rg (hT.2.1 74) ⟨by omega, by omega⟩
  refine K_pfi (a' := [(74, upI (m.2 74) t kn)]) 24 74 (m.2 74) rfl rfl rfl (by omega) (by omega) (show (m3.2 74) = (m.2 74) from (fr2 Fm3 74 rfl)) rfl rfl ?_
  refine T_ld 25 (.ref 178) rfl (fun _ => rfl) ?_
  refine K_gf 28 (.ref 6) rfl rfl kd_178 rfl rfl rfl ?_
  refine T_ld 30 (.int (i32 40)) rfl (fun _ => rfl) ?_
  refine T_callx 33 78 [.ref 6, .int (i32 40)] [] rfl (fun _ => rfl) rfl rfl (c_tx_expect w (mO m3 [] [(74, upI (m.2 74) t kn)]) c N D (by omega) (KTy_mO Tm3 rfl rfl trivial ⟨G13, trivial⟩) 40 ⟨by decide, by decide⟩) (fun rr14 k15 => ?_)
  rcases k15 with ⟨m16, Tm16, Fm16, h17, h18, rfl⟩ | ⟨xx21, m19, hx20, Tm19, Fm19, rfl⟩
  rotate_left
  · skip
    refine Or.inr ⟨_, _, _, _, rfl, ?_⟩
    exact Or.inr ⟨xx21, (mO m19 [] []), (hx20), Tm19, (fr_m (fr_s Fm19 (fr_m (fr_s Fm3 (fr_m fr_0 rfl rfl) rfl rfl) rfl rfl) rfl rfl) rfl rfl), rfl⟩
  refine Or.inl ⟨_, _, _, _, rfl, ?_⟩
  refine K_nb (st' := []) rfl ?_
  have g22 : (-1) ≤ m16.1 206 ∧ m16.1 206 ≤ 65535 := Tm16.1 206
  have g23 : 0 ≤ m16.1 207 ∧ m16.1 207 ≤ 4001 := Tm16.1 207
  replace h17 : (m3.1 206) = (40 : Int) := h17
  replace h18 : (m3.1 213) = 0 := h18
  rewrite [(show (m3.1 213) = (m.1 213) from (fr1 Fm3 213 rfl))] at h18
  refine T_ld 34 (.ref 178) rfl (fun _ => rfl) ?_
  refine K_gf 37 (.ref 45) rfl rfl kd_178 rfl rfl rfl ?_
  refine K_gf 40 (.ref 46) rfl rfl kd_45 rfl rfl rfl ?_
  refine T_ld 41 (.int (i32 kn)) rfl (fun _ => rfl) ?_
  refine K_iald 42 39 (m.2 39) rfl rfl rfl (by omega) (show kn < (16 : Int) by omega) (show (m16.2 39) = (m.2 39) from ((fr2 Fm16 39 rfl).trans (fr2 Fm3 39 rfl))) ?_
  have e24 : 0 ≤ m.2 39 kn ∧ m.2 39 kn ≤ 4 := hT.2.1 39 kn
  refine T_sto 44 [(4, .int (i32 ((m.2 39) kn))), (3, .int (i32 kn)), (2, .int (i32 (m.1 207))), (0, .ref 178), (1, .ref (tbr t))] rfl (fun _ => rfl) ?_
  refine T_ld 45 (.int (i32 0)) rfl (fun _ => rfl) ?_
  refine T_sto 47 [(5, .int (i32 0)), (4, .int (i32 ((m.2 39) kn))), (3, .int (i32 kn)), (2, .int (i32 (m.1 207))), (0, .ref 178), (1, .ref (tbr t))] rfl (fun _ => rfl) ?_
  refine T_ld 48 (.ref 178) rfl (fun _ => rfl) ?_
  refine K_gf 51 (.ref 6) rfl rfl kd_178 rfl rfl rfl ?_
  refine K_gf 54 (.int (i32 (m16.1 206))) rfl rfl kd_6 rfl rfl rfl ?_
  refine T_ld 56 (.int (i32 41)) rfl (fun _ => rfl) ?_
  refine T_icmp 63 59 rfl rfl rfl (r32 (by omega) (by omega)) ⟨by decide, by decide⟩ (fun (h25 : (m16.1 206) = 41) => ?_) (fun (h25 : ¬ ((m16.1 206) = 41)) => ?_)
  · skip
    refine T_ld 64 (.int (i32 0)) rfl (fun _ => rfl) ?_
    refine T_sto 66 [(6, .int (i32 0)), (5, .int (i32 0)), (4, .int (i32 ((m.2 39) kn))), (3, .int (i32 kn)), (2, .int (i32 (m.1 207))), (0, .ref 178), (1, .ref (tbr t))] rfl (fun _ => rfl) ?_
    refine T_ld 67 (.int (i32 0)) rfl (fun _ => rfl) ?_
    refine T_sto 69 [(7, .int (i32 0)), (6, .int (i32 0)), (5, .int (i32 0)), (4, .int (i32 ((m.2 39) kn))), (3, .int (i32 kn)), (2, .int (i32 (m.1 207))), (0, .ref 178), (1, .ref (tbr t))] rfl (fun _ => rfl) ?_
    have L69_30 : ∀ (n44 : Nat) (v26 : Int) (v27 : Int) (v28 : Int) (m29 : mR), (R32 v26) → (R32 v27) → (R32 v28) → KTy m29 → fr [205, 206, 207, 208, 209, 210, 211, 212] [84] (mO m16 [] []) m29 → (0 ≤ v26) → (v26 ≤ 0) → (0 ≤ v27) → (v27 ≤ 0) → (0 ≤ v28) → (v28 ≤ 0) → (0 ≤ v26 ∧ v26 ≤ v28) → (0 ≤ v28 ∧ v28 ≤ 4001) → 4010 - v28 < (n44 : Int) → TT w D pm_133 (69, [(0, .ref 178), (1, .ref (tbr t)), (2, .int (i32 (m.1 207))), (3, .int (i32 kn)), (4, .int (i32 ((m.2 39) kn))), (5, .int (i32 v26)), (6, .int (i32 v27)), (7, .int (i32 v28))], [], (khp (mO m29 [] []) c, N), 0, 0) (Q_rd_defaultLine m c N t) := by
      intro n44
      induction n44 with
      | zero =>
        intro v26 v27 v28 m29 q39 q40 q41 Tm29 Fm29 ic31 ic32 ic33 ic34 ic35 ic36 ic37 ic38 hmu
        obtain ⟨q39a, q39b⟩ := id q39
        obtain ⟨q40a, q40b⟩ := id q40
        obtain ⟨q41a, q41b⟩ := id q41
        have q42_206 : (-1) ≤ m29.1 206 ∧ m29.1 206 ≤ 65535 := Tm29.1 206
        have q42_207 : 0 ≤ m29.1 207 ∧ m29.1 207 ≤ 4001 := Tm29.1 207
        exfalso
        omega
      | succ n44 ih =>
        intro v26 v27 v28 m29 q39 q40 q41 Tm29 Fm29 ic31 ic32 ic33 ic34 ic35 ic36 ic37 ic38 hmu
        obtain ⟨q39a, q39b⟩ := id q39
        obtain ⟨q40a, q40b⟩ := id q40
        obtain ⟨q41a, q41b⟩ := id q41
        have q42_206 : (-1) ≤ m29.1 206 ∧ m29.1 206 ≤ 65535 := Tm29.1 206
        have q42_207 : 0 ≤ m29.1 207 ∧ m29.1 207 ≤ 4001 := Tm29.1 207
        have ih45 := ih
        refine T_ld 71 (.int (i32 v28)) rfl (fun _ => rfl) ?_
        refine T_ld 74 (.int (i32 4000)) rfl (fun _ => rfl) ?_
        refine T_icmp 159 77 rfl rfl rfl (r32 (by omega) (by omega)) ⟨by decide, by decide⟩ (fun (h46 : (4000 : Int) < v28) => by exfalso; omega) (fun (h46 : ¬ ((4000 : Int) < v28)) => ?_)
        refine T_ld 79 (.int (i32 v27)) rfl (fun _ => rfl) ?_
        refine T_if 159 82 rfl rfl rfl (r32 (by omega) (by omega)) (fun (h47 : v27 = 0) => ?_) (fun (h47 : ¬ (v27 = 0)) => by exfalso; omega)
        refine T_ld 160 (.ref 178) rfl (fun _ => rfl) ?_
        refine K_gf 163 (.ref 6) rfl rfl kd_178 rfl rfl rfl ?_
        refine K_gf 166 (.int (i32 (m29.1 206))) rfl rfl kd_6 rfl rfl rfl ?_
        refine T_ld 168 (.int (i32 41)) rfl (fun _ => rfl) ?_
        refine T_icmp 188 171 rfl rfl rfl (r32 (by omega) (by omega)) ⟨by decide, by decide⟩ (fun (h48 : (m29.1 206) ≠ 41) => ?_) (fun (h48 : ¬ ((m29.1 206) ≠ 41)) => ?_)
        · skip
          refine T_ld 189 (.ref 178) rfl (fun _ => rfl) ?_
          refine K_gf 192 (.ref 6) rfl rfl kd_178 rfl rfl rfl ?_
          refine T_ld 194 (.int (i32 41)) rfl (fun _ => rfl) ?_
          refine T_callx 197 78 [.ref 6, .int (i32 41)] [] rfl (fun _ => rfl) rfl rfl (c_tx_expect w (mO m29 [] []) c N D (by omega) Tm29 41 ⟨by decide, by decide⟩) (fun rr49 k50 => ?_)
          rcases k50 with ⟨m51, Tm51, Fm51, h52, h53, rfl⟩ | ⟨xx56, m54, hx55, Tm54, Fm54, rfl⟩
          rotate_left
          · skip
            refine Or.inr ⟨_, _, _, _, rfl, ?_⟩
            exact Or.inr ⟨xx56, (mO m54 [] []), (hx55), Tm54, (fr_m (fr_s Fm54 (fr_m (fr_s Fm29 (fr_m (fr_s Fm16 (fr_m (fr_s Fm3 (fr_m fr_0 rfl rfl) rfl rfl) rfl rfl) rfl rfl) rfl rfl) rfl rfl) rfl rfl) rfl rfl) rfl rfl), rfl⟩
          refine Or.inl ⟨_, _, _, _, rfl, ?_⟩
          refine K_nb (st' := []) rfl ?_
          have g57 : (-1) ≤ m51.1 206 ∧ m51.1 206 ≤ 65535 := Tm51.1 206
          have g58 : 0 ≤ m51.1 207 ∧ m51.1 207 ≤ 4001 := Tm51.1 207
          replace h52 : (m29.1 206) = (41 : Int) := h52
          replace h53 : (m29.1 213) = 0 := h53
          rewrite [(show (m29.1 213) = (m.1 213) from ((fr1 Fm29 213 rfl).trans ((fr1 Fm16 213 rfl).trans (fr1 Fm3 213 rfl))))] at h53
          refine T_ld 198 (.ref 178) rfl (fun _ => rfl) ?_
          refine K_gf 201 (.ref 6) rfl rfl kd_178 rfl rfl rfl ?_
          refine T_ld 203 (.int (i32 59)) rfl (fun _ => rfl) ?_
          refine T_callx 206 78 [.ref 6, .int (i32 59)] [] rfl (fun _ => rfl) rfl rfl (c_tx_expect w (mO m51 [] []) c N D (by omega) Tm51 59 ⟨by decide, by decide⟩) (fun rr59 k60 => ?_)
          rcases k60 with ⟨m61, Tm61, Fm61, h62, h63, rfl⟩ | ⟨xx66, m64, hx65, Tm64, Fm64, rfl⟩
          rotate_left
          · skip
            refine Or.inr ⟨_, _, _, _, rfl, ?_⟩
            exact Or.inr ⟨xx66, (mO m64 [] []), (hx65), Tm64, (fr_m (fr_s Fm64 (fr_m (fr_s Fm51 (fr_m (fr_s Fm29 (fr_m (fr_s Fm16 (fr_m (fr_s Fm3 (fr_m fr_0 rfl rfl) rfl rfl) rfl rfl) rfl rfl) rfl rfl) rfl rfl) rfl rfl) rfl rfl) rfl rfl) rfl rfl) rfl rfl), rfl⟩
          refine Or.inl ⟨_, _, _, _, rfl, ?_⟩
          refine K_nb (st' := []) rfl ?_
          have g67 : (-1) ≤ m61.1 206 ∧ m61.1 206 ≤ 65535 := Tm61.1 206
          have g68 : 0 ≤ m61.1 207 ∧ m61.1 207 ≤ 4001 := Tm61.1 207
          replace h62 : (m51.1 206) = (59 : Int) := h62
          replace h63 : (m51.1 213) = 0 := h63
          rewrite [(show (m51.1 213) = (m.1 213) from ((fr1 Fm51 213 rfl).trans ((fr1 Fm29 213 rfl).trans ((fr1 Fm16 213 rfl).trans (fr1 Fm3 213 rfl)))))] at h63
          refine T_ret rfl (fun _ => rfl) ?_
          exact Or.inl ⟨(mO m61 [] []), Tm61, (fr_m (fr_s Fm61 (fr_m (fr_s Fm51 (fr_m (fr_s Fm29 (fr_m (fr_s Fm16 (fr_m (fr_s Fm3 (fr_m fr_0 rfl rfl) rfl rfl) rfl rfl) rfl rfl) rfl rfl) rfl rfl) rfl rfl) rfl rfl) rfl rfl) rfl rfl) rfl rfl), (show LTp (t + 1) (m61.2 74) (m.1 223) by rewrite [(show (m61.2 74) = (upI (m.2 74) t kn) from ((fr2 Fm61 74 rfl).trans ((fr2 Fm51 74 rfl).trans ((fr2 Fm29 74 rfl).trans (fr2 Fm16 74 rfl)))))]; first | (exact LT_s hTD (by omega) rfl) | (exfalso; omega)), rfl⟩
        · skip
          refine T_ld 173 (.int (i32 v26)) rfl (fun _ => rfl) ?_
          refine T_ld 175 (.int (i32 ((m.2 39) kn))) rfl (fun _ => rfl) ?_
          refine T_icmp 188 178 rfl rfl rfl (r32 (by omega) (by omega)) (r32 (by omega) (by omega)) (fun (h69 : v26 = (m.2 39) kn) => ?_) (fun (h69 : ¬ (v26 = (m.2 39) kn)) => ?_)
          · skip
            refine T_ld 189 (.ref 178) rfl (fun _ => rfl) ?_
            refine K_gf 192 (.ref 6) rfl rfl kd_178 rfl rfl rfl ?_
            refine T_ld 194 (.int (i32 41)) rfl (fun _ => rfl) ?_
            refine T_callx 197 78 [.ref 6, .int (i32 41)] [] rfl (fun _ => rfl) rfl rfl (c_tx_expect w (mO m29 [] []) c N D (by omega) Tm29 41 ⟨by decide, by decide⟩) (fun rr70 k71 => ?_)
            rcases k71 with ⟨m72, Tm72, Fm72, h73, h74, rfl⟩ | ⟨xx77, m75, hx76, Tm75, Fm75, rfl⟩
            rotate_left
            · skip
              refine Or.inr ⟨_, _, _, _, rfl, ?_⟩
              exact Or.inr ⟨xx77, (mO m75 [] []), (hx76), Tm75, (fr_m (fr_s Fm75 (fr_m (fr_s Fm29 (fr_m (fr_s Fm16 (fr_m (fr_s Fm3 (fr_m fr_0 rfl rfl) rfl rfl) rfl rfl) rfl rfl) rfl rfl) rfl rfl) rfl rfl) rfl rfl) rfl rfl), rfl⟩
            refine Or.inl ⟨_, _, _, _, rfl, ?_⟩
            refine K_nb (st' := []) rfl ?_
            have g78 : (-1) ≤ m72.1 206 ∧ m72.1 206 ≤ 65535 := Tm72.1 206
            have g79 : 0 ≤ m72.1 207 ∧ m72.1 207 ≤ 4001 := Tm72.1 207
            replace h73 : (m29.1 206) = (41 : Int) := h73
            replace h74 : (m29.1 213) = 0 := h74
            rewrite [(show (m29.1 213) = (m.1 213) from ((fr1 Fm29 213 rfl).trans ((fr1 Fm16 213 rfl).trans (fr1 Fm3 213 rfl))))] at h74
            refine T_ld 198 (.ref 178) rfl (fun _ => rfl) ?_
            refine K_gf 201 (.ref 6) rfl rfl kd_178 rfl rfl rfl ?_
            refine T_ld 203 (.int (i32 59)) rfl (fun _ => rfl) ?_
            refine T_callx 206 78 [.ref 6, .int (i32 59)] [] rfl (fun _ => rfl) rfl rfl (c_tx_expect w (mO m72 [] []) c N D (by omega) Tm72 59 ⟨by decide, by decide⟩) (fun rr80 k81 => ?_)
            rcases k81 with ⟨m82, Tm82, Fm82, h83, h84, rfl⟩ | ⟨xx87, m85, hx86, Tm85, Fm85, rfl⟩
            rotate_left
            · skip
              refine Or.inr ⟨_, _, _, _, rfl, ?_⟩
              exact Or.inr ⟨xx87, (mO m85 [] []), (hx86), Tm85, (fr_m (fr_s Fm85 (fr_m (fr_s Fm72 (fr_m (fr_s Fm29 (fr_m (fr_s Fm16 (fr_m (fr_s Fm3 (fr_m fr_0 rfl rfl) rfl rfl) rfl rfl) rfl rfl) rfl rfl) rfl rfl) rfl rfl) rfl rfl) rfl rfl) rfl rfl) rfl rfl), rfl⟩
            refine Or.inl ⟨_, _, _, _, rfl, ?_⟩
            refine K_nb (st' := []) rfl ?_
            have g88 : (-1) ≤ m82.1 206 ∧ m82.1 206 ≤ 65535 := Tm82.1 206
            have g89 : 0 ≤ m82.1 207 ∧ m82.1 207 ≤ 4001 := Tm82.1 207
            replace h83 : (m72.1 206) = (59 : Int) := h83
            replace h84 : (m72.1 213) = 0 := h84
            rewrite [(show (m72.1 213) = (m.1 213) from ((fr1 Fm72 213 rfl).trans ((fr1 Fm29 213 rfl).trans ((fr1 Fm16 213 rfl).trans (fr1 Fm3 213 rfl)))))] at h84
            refine T_ret rfl (fun _ => rfl) ?_
            exact Or.inl ⟨(mO m82 [] []), Tm82, (fr_m (fr_s Fm82 (fr_m (fr_s Fm72 (fr_m (fr_s Fm29 (fr_m (fr_s Fm16 (fr_m (fr_s Fm3 (fr_m fr_0 rfl rfl) rfl rfl) rfl rfl) rfl rfl) rfl rfl) rfl rfl) rfl rfl) rfl rfl) rfl rfl) rfl rfl) rfl rfl), (show LTp (t + 1) (m82.2 74) (m.1 223) by rewrite [(show (m82.2 74) = (upI (m.2 74) t kn) from ((fr2 Fm82 74 rfl).trans ((fr2 Fm72 74 rfl).trans ((fr2 Fm29 74 rfl).trans (fr2 Fm16 74 rfl)))))]; first | (exact LT_s hTD (by omega) rfl) | (exfalso; omega)), rfl⟩
          · skip
            refine T_ld 179 (.ref 178) rfl (fun _ => rfl) ?_
            refine K_gf 182 (.ref 6) rfl rfl kd_178 rfl rfl rfl ?_
            refine T_ld 184 (.int (i32 8)) rfl (fun _ => rfl) ?_
            refine T_ld 185 (.int (i32 (m.1 207))) rfl (fun _ => rfl) ?_
            refine T_callx 188 51 [.ref 6, .int (i32 8), .int (i32 (m.1 207))] [] rfl (fun _ => rfl) rfl rfl (c_tx_fail w (mO m29 [] []) c N D (by omega) Tm29 8 (m.1 207) ⟨by decide, by decide⟩ (r32 (by omega) (by omega)) (show 1 ≤ (8 : Int) ∧ (8 : Int) ≤ 8 by omega) (show 0 ≤ (m.1 207) ∧ (m.1 207) ≤ 4001 by omega)) (fun rr90 k91 => ?_)
            rcases k91 with ⟨m92, Tm92, Fm92, h93, rfl⟩ | ⟨xx96, m94, hx95, Tm94, Fm94, rfl⟩
            rotate_left
            · skip
              refine Or.inr ⟨_, _, _, _, rfl, ?_⟩
              exact Or.inr ⟨xx96, (mO m94 [] []), (hx95), Tm94, (fr_m (fr_s Fm94 (fr_m (fr_s Fm29 (fr_m (fr_s Fm16 (fr_m (fr_s Fm3 (fr_m fr_0 rfl rfl) rfl rfl) rfl rfl) rfl rfl) rfl rfl) rfl rfl) rfl rfl) rfl rfl) rfl rfl), rfl⟩
            exact h93.elim
    refine Tm_lv (a := [(0, .ref 178), (1, .ref (tbr t)), (2, .int (i32 (m.1 207))), (3, .int (i32 kn)), (4, .int (i32 ((m.2 39) kn))), (5, .int (i32 0)), (6, .int (i32 0)), (7, .int (i32 0))]) rfl rfl ⟨rfl, rfl, rfl, rfl, rfl, rfl, rfl, rfl, trivial⟩ ?_
    exact L69_30 ((4010 - (0 : Int) : Int) + 1).toNat 0 0 0 (mO m16 [] []) ⟨by decide, by decide⟩ ⟨by decide, by decide⟩ ⟨by decide, by decide⟩ Tm16 (fr_m fr_0 rfl rfl) (show 0 ≤ (0 : Int) by omega) (show (0 : Int) ≤ 0 by omega) (show 0 ≤ (0 : Int) by omega) (show (0 : Int) ≤ 0 by omega) (show 0 ≤ (0 : Int) by omega) (show (0 : Int) ≤ 0 by omega) (show 0 ≤ (0 : Int) ∧ (0 : Int) ≤ (0 : Int) by omega) (show 0 ≤ (0 : Int) ∧ (0 : Int) ≤ 4001 by omega) (show 4010 - (0 : Int) < ((((4010 - (0 : Int) : Int) + 1).toNat : Nat) : Int) by omega)
  · skip
    refine T_ld 60 (.int (i32 1)) rfl (fun _ => rfl) ?_
    refine T_goto 64 rfl (fun _ => rfl) ?_
    refine T_sto 66 [(6, .int (i32 1)), (5, .int (i32 0)), (4, .int (i32 ((m.2 39) kn))), (3, .int (i32 kn)), (2, .int (i32 (m.1 207))), (0, .ref 178), (1, .ref (tbr t))] rfl (fun _ => rfl) ?_
    refine T_ld 67 (.int (i32 0)) rfl (fun _ => rfl) ?_
    refine T_sto 69 [(7, .int (i32 0)), (6, .int (i32 1)), (5, .int (i32 0)), (4, .int (i32 ((m.2 39) kn))), (3, .int (i32 kn)), (2, .int (i32 (m.1 207))), (0, .ref 178), (1, .ref (tbr t))] rfl (fun _ => rfl) ?_
    have L69_101 : ∀ (n113 : Nat) (v97 : Int) (v98 : Int) (v99 : Int) (m100 : mR), (R32 v97) → (R32 v98) → (R32 v99) → KTy m100 → fr [205, 206, 207, 208, 209, 210, 211, 212] [84] (mO m16 [] []) m100 → (0 ≤ v97) → (0 ≤ v98) → (v98 ≤ 1) → (0 ≤ v99) → (0 ≤ v97 ∧ v97 ≤ v99) → (0 ≤ v99 ∧ v99 ≤ 4001) → 4010 - v99 < (n113 : Int) → TT w D pm_133 (69, [(0, .ref 178), (1, .ref (tbr t)), (2, .int (i32 (m.1 207))), (3, .int (i32 kn)), (4, .int (i32 ((m.2 39) kn))), (5, .int (i32 v97)), (6, .int (i32 v98)), (7, .int (i32 v99))], [], (khp (mO m100 [] []) c, N), 0, 0) (Q_rd_defaultLine m c N t) := by
      intro n113
      induction n113 with
      | zero =>
        intro v97 v98 v99 m100 q108 q109 q110 Tm100 Fm100 ic102 ic103 ic104 ic105 ic106 ic107 hmu
        obtain ⟨q108a, q108b⟩ := id q108
        obtain ⟨q109a, q109b⟩ := id q109
        obtain ⟨q110a, q110b⟩ := id q110
        have q111_206 : (-1) ≤ m100.1 206 ∧ m100.1 206 ≤ 65535 := Tm100.1 206
        have q111_207 : 0 ≤ m100.1 207 ∧ m100.1 207 ≤ 4001 := Tm100.1 207
        exfalso
        omega
      | succ n113 ih =>
        intro v97 v98 v99 m100 q108 q109 q110 Tm100 Fm100 ic102 ic103 ic104 ic105 ic106 ic107 hmu
        obtain ⟨q108a, q108b⟩ := id q108
        obtain ⟨q109a, q109b⟩ := id q109
        obtain ⟨q110a, q110b⟩ := id q110
        have q111_206 : (-1) ≤ m100.1 206 ∧ m100.1 206 ≤ 65535 := Tm100.1 206
        have q111_207 : 0 ≤ m100.1 207 ∧ m100.1 207 ≤ 4001 := Tm100.1 207
        have ih114 := ih
        refine T_ld 71 (.int (i32 v99)) rfl (fun _ => rfl) ?_
        refine T_ld 74 (.int (i32 4000)) rfl (fun _ => rfl) ?_
        refine T_icmp 159 77 rfl rfl rfl (r32 (by omega) (by omega)) ⟨by decide, by decide⟩ (fun (h115 : (4000 : Int) < v99) => ?_) (fun (h115 : ¬ ((4000 : Int) < v99)) => ?_)
        · skip
          refine T_ld 160 (.ref 178) rfl (fun _ => rfl) ?_
          refine K_gf 163 (.ref 6) rfl rfl kd_178 rfl rfl rfl ?_
          refine K_gf 166 (.int (i32 (m100.1 206))) rfl rfl kd_6 rfl rfl rfl ?_
          refine T_ld 168 (.int (i32 41)) rfl (fun _ => rfl) ?_
          refine T_icmp 188 171 rfl rfl rfl (r32 (by omega) (by omega)) ⟨by decide, by decide⟩ (fun (h116 : (m100.1 206) ≠ 41) => ?_) (fun (h116 : ¬ ((m100.1 206) ≠ 41)) => ?_)
          · skip
            refine T_ld 189 (.ref 178) rfl (fun _ => rfl) ?_
            refine K_gf 192 (.ref 6) rfl rfl kd_178 rfl rfl rfl ?_
            refine T_ld 194 (.int (i32 41)) rfl (fun _ => rfl) ?_
            refine T_callx 197 78 [.ref 6, .int (i32 41)] [] rfl (fun _ => rfl) rfl rfl (c_tx_expect w (mO m100 [] []) c N D (by omega) Tm100 41 ⟨by decide, by decide⟩) (fun rr117 k118 => ?_)
            rcases k118 with ⟨m119, Tm119, Fm119, h120, h121, rfl⟩ | ⟨xx124, m122, hx123, Tm122, Fm122, rfl⟩
            rotate_left
            · skip
              refine Or.inr ⟨_, _, _, _, rfl, ?_⟩
              exact Or.inr ⟨xx124, (mO m122 [] []), (hx123), Tm122, (fr_m (fr_s Fm122 (fr_m (fr_s Fm100 (fr_m (fr_s Fm16 (fr_m (fr_s Fm3 (fr_m fr_0 rfl rfl) rfl rfl) rfl rfl) rfl rfl) rfl rfl) rfl rfl) rfl rfl) rfl rfl) rfl rfl), rfl⟩
            refine Or.inl ⟨_, _, _, _, rfl, ?_⟩
            refine K_nb (st' := []) rfl ?_
            have g125 : (-1) ≤ m119.1 206 ∧ m119.1 206 ≤ 65535 := Tm119.1 206
            have g126 : 0 ≤ m119.1 207 ∧ m119.1 207 ≤ 4001 := Tm119.1 207
            replace h120 : (m100.1 206) = (41 : Int) := h120
            replace h121 : (m100.1 213) = 0 := h121
            rewrite [(show (m100.1 213) = (m.1 213) from ((fr1 Fm100 213 rfl).trans ((fr1 Fm16 213 rfl).trans (fr1 Fm3 213 rfl))))] at h121
            refine T_ld 198 (.ref 178) rfl (fun _ => rfl) ?_
            refine K_gf 201 (.ref 6) rfl rfl kd_178 rfl rfl rfl ?_
            refine T_ld 203 (.int (i32 59)) rfl (fun _ => rfl) ?_
            refine T_callx 206 78 [.ref 6, .int (i32 59)] [] rfl (fun _ => rfl) rfl rfl (c_tx_expect w (mO m119 [] []) c N D (by omega) Tm119 59 ⟨by decide, by decide⟩) (fun rr127 k128 => ?_)
            rcases k128 with ⟨m129, Tm129, Fm129, h130, h131, rfl⟩ | ⟨xx134, m132, hx133, Tm132, Fm132, rfl⟩
            rotate_left
            · skip
              refine Or.inr ⟨_, _, _, _, rfl, ?_⟩
              exact Or.inr ⟨xx134, (mO m132 [] []), (hx133), Tm132, (fr_m (fr_s Fm132 (fr_m (fr_s Fm119 (fr_m (fr_s Fm100 (fr_m (fr_s Fm16 (fr_m (fr_s Fm3 (fr_m fr_0 rfl rfl) rfl rfl) rfl rfl) rfl rfl) rfl rfl) rfl rfl) rfl rfl) rfl rfl) rfl rfl) rfl rfl) rfl rfl), rfl⟩
            refine Or.inl ⟨_, _, _, _, rfl, ?_⟩
            refine K_nb (st' := []) rfl ?_
            have g135 : (-1) ≤ m129.1 206 ∧ m129.1 206 ≤ 65535 := Tm129.1 206
            have g136 : 0 ≤ m129.1 207 ∧ m129.1 207 ≤ 4001 := Tm129.1 207
            replace h130 : (m119.1 206) = (59 : Int) := h130
            replace h131 : (m119.1 213) = 0 := h131
            rewrite [(show (m119.1 213) = (m.1 213) from ((fr1 Fm119 213 rfl).trans ((fr1 Fm100 213 rfl).trans ((fr1 Fm16 213 rfl).trans (fr1 Fm3 213 rfl)))))] at h131
            refine T_ret rfl (fun _ => rfl) ?_
            exact Or.inl ⟨(mO m129 [] []), Tm129, (fr_m (fr_s Fm129 (fr_m (fr_s Fm119 (fr_m (fr_s Fm100 (fr_m (fr_s Fm16 (fr_m (fr_s Fm3 (fr_m fr_0 rfl rfl) rfl rfl) rfl rfl) rfl rfl) rfl rfl) rfl rfl) rfl rfl) rfl rfl) rfl rfl) rfl rfl) rfl rfl), (show LTp (t + 1) (m129.2 74) (m.1 223) by rewrite [(show (m129.2 74) = (upI (m.2 74) t kn) from ((fr2 Fm129 74 rfl).trans ((fr2 Fm119 74 rfl).trans ((fr2 Fm100 74 rfl).trans (fr2 Fm16 74 rfl)))))]; first | (exact LT_s hTD (by omega) rfl) | (exfalso; omega)), rfl⟩
          · skip
            refine T_ld 173 (.int (i32 v97)) rfl (fun _ => rfl) ?_
            refine T_ld 175 (.int (i32 ((m.2 39) kn))) rfl (fun _ => rfl) ?_
            refine T_icmp 188 178 rfl rfl rfl (r32 (by omega) (by omega)) (r32 (by omega) (by omega)) (fun (h137 : v97 = (m.2 39) kn) => ?_) (fun (h137 : ¬ (v97 = (m.2 39) kn)) => ?_)
            · skip
              refine T_ld 189 (.ref 178) rfl (fun _ => rfl) ?_
              refine K_gf 192 (.ref 6) rfl rfl kd_178 rfl rfl rfl ?_
              refine T_ld 194 (.int (i32 41)) rfl (fun _ => rfl) ?_
              refine T_callx 197 78 [.ref 6, .int (i32 41)] [] rfl (fun _ => rfl) rfl rfl (c_tx_expect w (mO m100 [] []) c N D (by omega) Tm100 41 ⟨by decide, by decide⟩) (fun rr138 k139 => ?_)
              rcases k139 with ⟨m140, Tm140, Fm140, h141, h142, rfl⟩ | ⟨xx145, m143, hx144, Tm143, Fm143, rfl⟩
              rotate_left
              · skip
                refine Or.inr ⟨_, _, _, _, rfl, ?_⟩
                exact Or.inr ⟨xx145, (mO m143 [] []), (hx144), Tm143, (fr_m (fr_s Fm143 (fr_m (fr_s Fm100 (fr_m (fr_s Fm16 (fr_m (fr_s Fm3 (fr_m fr_0 rfl rfl) rfl rfl) rfl rfl) rfl rfl) rfl rfl) rfl rfl) rfl rfl) rfl rfl) rfl rfl), rfl⟩
              refine Or.inl ⟨_, _, _, _, rfl, ?_⟩
              refine K_nb (st' := []) rfl ?_
              have g146 : (-1) ≤ m140.1 206 ∧ m140.1 206 ≤ 65535 := Tm140.1 206
              have g147 : 0 ≤ m140.1 207 ∧ m140.1 207 ≤ 4001 := Tm140.1 207
              replace h141 : (m100.1 206) = (41 : Int) := h141
              replace h142 : (m100.1 213) = 0 := h142
              rewrite [(show (m100.1 213) = (m.1 213) from ((fr1 Fm100 213 rfl).trans ((fr1 Fm16 213 rfl).trans (fr1 Fm3 213 rfl))))] at h142
              refine T_ld 198 (.ref 178) rfl (fun _ => rfl) ?_
              refine K_gf 201 (.ref 6) rfl rfl kd_178 rfl rfl rfl ?_
              refine T_ld 203 (.int (i32 59)) rfl (fun _ => rfl) ?_
              refine T_callx 206 78 [.ref 6, .int (i32 59)] [] rfl (fun _ => rfl) rfl rfl (c_tx_expect w (mO m140 [] []) c N D (by omega) Tm140 59 ⟨by decide, by decide⟩) (fun rr148 k149 => ?_)
              rcases k149 with ⟨m150, Tm150, Fm150, h151, h152, rfl⟩ | ⟨xx155, m153, hx154, Tm153, Fm153, rfl⟩
              rotate_left
              · skip
                refine Or.inr ⟨_, _, _, _, rfl, ?_⟩
                exact Or.inr ⟨xx155, (mO m153 [] []), (hx154), Tm153, (fr_m (fr_s Fm153 (fr_m (fr_s Fm140 (fr_m (fr_s Fm100 (fr_m (fr_s Fm16 (fr_m (fr_s Fm3 (fr_m fr_0 rfl rfl) rfl rfl) rfl rfl) rfl rfl) rfl rfl) rfl rfl) rfl rfl) rfl rfl) rfl rfl) rfl rfl) rfl rfl), rfl⟩
              refine Or.inl ⟨_, _, _, _, rfl, ?_⟩
              refine K_nb (st' := []) rfl ?_
              have g156 : (-1) ≤ m150.1 206 ∧ m150.1 206 ≤ 65535 := Tm150.1 206
              have g157 : 0 ≤ m150.1 207 ∧ m150.1 207 ≤ 4001 := Tm150.1 207
              replace h151 : (m140.1 206) = (59 : Int) := h151
              replace h152 : (m140.1 213) = 0 := h152
              rewrite [(show (m140.1 213) = (m.1 213) from ((fr1 Fm140 213 rfl).trans ((fr1 Fm100 213 rfl).trans ((fr1 Fm16 213 rfl).trans (fr1 Fm3 213 rfl)))))] at h152
              refine T_ret rfl (fun _ => rfl) ?_
              exact Or.inl ⟨(mO m150 [] []), Tm150, (fr_m (fr_s Fm150 (fr_m (fr_s Fm140 (fr_m (fr_s Fm100 (fr_m (fr_s Fm16 (fr_m (fr_s Fm3 (fr_m fr_0 rfl rfl) rfl rfl) rfl rfl) rfl rfl) rfl rfl) rfl rfl) rfl rfl) rfl rfl) rfl rfl) rfl rfl) rfl rfl), (show LTp (t + 1) (m150.2 74) (m.1 223) by rewrite [(show (m150.2 74) = (upI (m.2 74) t kn) from ((fr2 Fm150 74 rfl).trans ((fr2 Fm140 74 rfl).trans ((fr2 Fm100 74 rfl).trans (fr2 Fm16 74 rfl)))))]; first | (exact LT_s hTD (by omega) rfl) | (exfalso; omega)), rfl⟩
            · skip
              refine T_ld 179 (.ref 178) rfl (fun _ => rfl) ?_
              refine K_gf 182 (.ref 6) rfl rfl kd_178 rfl rfl rfl ?_
              refine T_ld 184 (.int (i32 8)) rfl (fun _ => rfl) ?_
              refine T_ld 185 (.int (i32 (m.1 207))) rfl (fun _ => rfl) ?_
              refine T_callx 188 51 [.ref 6, .int (i32 8), .int (i32 (m.1 207))] [] rfl (fun _ => rfl) rfl rfl (c_tx_fail w (mO m100 [] []) c N D (by omega) Tm100 8 (m.1 207) ⟨by decide, by decide⟩ (r32 (by omega) (by omega)) (show 1 ≤ (8 : Int) ∧ (8 : Int) ≤ 8 by omega) (show 0 ≤ (m.1 207) ∧ (m.1 207) ≤ 4001 by omega)) (fun rr158 k159 => ?_)
              rcases k159 with ⟨m160, Tm160, Fm160, h161, rfl⟩ | ⟨xx164, m162, hx163, Tm162, Fm162, rfl⟩
              rotate_left
              · skip
                refine Or.inr ⟨_, _, _, _, rfl, ?_⟩
                exact Or.inr ⟨xx164, (mO m162 [] []), (hx163), Tm162, (fr_m (fr_s Fm162 (fr_m (fr_s Fm100 (fr_m (fr_s Fm16 (fr_m (fr_s Fm3 (fr_m fr_0 rfl rfl) rfl rfl) rfl rfl) rfl rfl) rfl rfl) rfl rfl) rfl rfl) rfl rfl) rfl rfl), rfl⟩
              exact h161.elim
        · skip
          refine T_ld 79 (.int (i32 v98)) rfl (fun _ => rfl) ?_
          refine T_if 159 82 rfl rfl rfl (r32 (by omega) (by omega)) (fun (h165 : v98 = 0) => ?_) (fun (h165 : ¬ (v98 = 0)) => ?_)
          · skip
            refine T_ld 160 (.ref 178) rfl (fun _ => rfl) ?_
            refine K_gf 163 (.ref 6) rfl rfl kd_178 rfl rfl rfl ?_
            refine K_gf 166 (.int (i32 (m100.1 206))) rfl rfl kd_6 rfl rfl rfl ?_
            refine T_ld 168 (.int (i32 41)) rfl (fun _ => rfl) ?_
            refine T_icmp 188 171 rfl rfl rfl (r32 (by omega) (by omega)) ⟨by decide, by decide⟩ (fun (h166 : (m100.1 206) ≠ 41) => ?_) (fun (h166 : ¬ ((m100.1 206) ≠ 41)) => ?_)
            · skip
              refine T_ld 189 (.ref 178) rfl (fun _ => rfl) ?_
              refine K_gf 192 (.ref 6) rfl rfl kd_178 rfl rfl rfl ?_
              refine T_ld 194 (.int (i32 41)) rfl (fun _ => rfl) ?_
              refine T_callx 197 78 [.ref 6, .int (i32 41)] [] rfl (fun _ => rfl) rfl rfl (c_tx_expect w (mO m100 [] []) c N D (by omega) Tm100 41 ⟨by decide, by decide⟩) (fun rr167 k168 => ?_)
              rcases k168 with ⟨m169, Tm169, Fm169, h170, h171, rfl⟩ | ⟨xx174, m172, hx173, Tm172, Fm172, rfl⟩
              rotate_left
              · skip
                refine Or.inr ⟨_, _, _, _, rfl, ?_⟩
                exact Or.inr ⟨xx174, (mO m172 [] []), (hx173), Tm172, (fr_m (fr_s Fm172 (fr_m (fr_s Fm100 (fr_m (fr_s Fm16 (fr_m (fr_s Fm3 (fr_m fr_0 rfl rfl) rfl rfl) rfl rfl) rfl rfl) rfl rfl) rfl rfl) rfl rfl) rfl rfl) rfl rfl), rfl⟩
              refine Or.inl ⟨_, _, _, _, rfl, ?_⟩
              refine K_nb (st' := []) rfl ?_
              have g175 : (-1) ≤ m169.1 206 ∧ m169.1 206 ≤ 65535 := Tm169.1 206
              have g176 : 0 ≤ m169.1 207 ∧ m169.1 207 ≤ 4001 := Tm169.1 207
              replace h170 : (m100.1 206) = (41 : Int) := h170
              replace h171 : (m100.1 213) = 0 := h171
              rewrite [(show (m100.1 213) = (m.1 213) from ((fr1 Fm100 213 rfl).trans ((fr1 Fm16 213 rfl).trans (fr1 Fm3 213 rfl))))] at h171
              refine T_ld 198 (.ref 178) rfl (fun _ => rfl) ?_
              refine K_gf 201 (.ref 6) rfl rfl kd_178 rfl rfl rfl ?_
              refine T_ld 203 (.int (i32 59)) rfl (fun _ => rfl) ?_
              refine T_callx 206 78 [.ref 6, .int (i32 59)] [] rfl (fun _ => rfl) rfl rfl (c_tx_expect w (mO m169 [] []) c N D (by omega) Tm169 59 ⟨by decide, by decide⟩) (fun rr177 k178 => ?_)
              rcases k178 with ⟨m179, Tm179, Fm179, h180, h181, rfl⟩ | ⟨xx184, m182, hx183, Tm182, Fm182, rfl⟩
              rotate_left
              · skip
                refine Or.inr ⟨_, _, _, _, rfl, ?_⟩
                exact Or.inr ⟨xx184, (mO m182 [] []), (hx183), Tm182, (fr_m (fr_s Fm182 (fr_m (fr_s Fm169 (fr_m (fr_s Fm100 (fr_m (fr_s Fm16 (fr_m (fr_s Fm3 (fr_m fr_0 rfl rfl) rfl rfl) rfl rfl) rfl rfl) rfl rfl) rfl rfl) rfl rfl) rfl rfl) rfl rfl) rfl rfl) rfl rfl), rfl⟩
              refine Or.inl ⟨_, _, _, _, rfl, ?_⟩
              refine K_nb (st' := []) rfl ?_
              have g185 : (-1) ≤ m179.1 206 ∧ m179.1 206 ≤ 65535 := Tm179.1 206
              have g186 : 0 ≤ m179.1 207 ∧ m179.1 207 ≤ 4001 := Tm179.1 207
              replace h180 : (m169.1 206) = (59 : Int) := h180
              replace h181 : (m169.1 213) = 0 := h181
              rewrite [(show (m169.1 213) = (m.1 213) from ((fr1 Fm169 213 rfl).trans ((fr1 Fm100 213 rfl).trans ((fr1 Fm16 213 rfl).trans (fr1 Fm3 213 rfl)))))] at h181
              refine T_ret rfl (fun _ => rfl) ?_
              exact Or.inl ⟨(mO m179 [] []), Tm179, (fr_m (fr_s Fm179 (fr_m (fr_s Fm169 (fr_m (fr_s Fm100 (fr_m (fr_s Fm16 (fr_m (fr_s Fm3 (fr_m fr_0 rfl rfl) rfl rfl) rfl rfl) rfl rfl) rfl rfl) rfl rfl) rfl rfl) rfl rfl) rfl rfl) rfl rfl) rfl rfl), (show LTp (t + 1) (m179.2 74) (m.1 223) by rewrite [(show (m179.2 74) = (upI (m.2 74) t kn) from ((fr2 Fm179 74 rfl).trans ((fr2 Fm169 74 rfl).trans ((fr2 Fm100 74 rfl).trans (fr2 Fm16 74 rfl)))))]; first | (exact LT_s hTD (by omega) rfl) | (exfalso; omega)), rfl⟩
            · skip
              refine T_ld 173 (.int (i32 v97)) rfl (fun _ => rfl) ?_
              refine T_ld 175 (.int (i32 ((m.2 39) kn))) rfl (fun _ => rfl) ?_
              refine T_icmp 188 178 rfl rfl rfl (r32 (by omega) (by omega)) (r32 (by omega) (by omega)) (fun (h187 : v97 = (m.2 39) kn) => ?_) (fun (h187 : ¬ (v97 = (m.2 39) kn)) => ?_)
              · skip
                refine T_ld 189 (.ref 178) rfl (fun _ => rfl) ?_
                refine K_gf 192 (.ref 6) rfl rfl kd_178 rfl rfl rfl ?_
                refine T_ld 194 (.int (i32 41)) rfl (fun _ => rfl) ?_
                refine T_callx 197 78 [.ref 6, .int (i32 41)] [] rfl (fun _ => rfl) rfl rfl (c_tx_expect w (mO m100 [] []) c N D (by omega) Tm100 41 ⟨by decide, by decide⟩) (fun rr188 k189 => ?_)
                rcases k189 with ⟨m190, Tm190, Fm190, h191, h192, rfl⟩ | ⟨xx195, m193, hx194, Tm193, Fm193, rfl⟩
                rotate_left
                · skip
                  refine Or.inr ⟨_, _, _, _, rfl, ?_⟩
                  exact Or.inr ⟨xx195, (mO m193 [] []), (hx194), Tm193, (fr_m (fr_s Fm193 (fr_m (fr_s Fm100 (fr_m (fr_s Fm16 (fr_m (fr_s Fm3 (fr_m fr_0 rfl rfl) rfl rfl) rfl rfl) rfl rfl) rfl rfl) rfl rfl) rfl rfl) rfl rfl) rfl rfl), rfl⟩
                refine Or.inl ⟨_, _, _, _, rfl, ?_⟩
                refine K_nb (st' := []) rfl ?_
                have g196 : (-1) ≤ m190.1 206 ∧ m190.1 206 ≤ 65535 := Tm190.1 206
                have g197 : 0 ≤ m190.1 207 ∧ m190.1 207 ≤ 4001 := Tm190.1 207
                replace h191 : (m100.1 206) = (41 : Int) := h191
                replace h192 : (m100.1 213) = 0 := h192
                rewrite [(show (m100.1 213) = (m.1 213) from ((fr1 Fm100 213 rfl).trans ((fr1 Fm16 213 rfl).trans (fr1 Fm3 213 rfl))))] at h192
                refine T_ld 198 (.ref 178) rfl (fun _ => rfl) ?_
                refine K_gf 201 (.ref 6) rfl rfl kd_178 rfl rfl rfl ?_
                refine T_ld 203 (.int (i32 59)) rfl (fun _ => rfl) ?_
                refine T_callx 206 78 [.ref 6, .int (i32 59)] [] rfl (fun _ => rfl) rfl rfl (c_tx_expect w (mO m190 [] []) c N D (by omega) Tm190 59 ⟨by decide, by decide⟩) (fun rr198 k199 => ?_)
                rcases k199 with ⟨m200, Tm200, Fm200, h201, h202, rfl⟩ | ⟨xx205, m203, hx204, Tm203, Fm203, rfl⟩
                rotate_left
                · skip
                  refine Or.inr ⟨_, _, _, _, rfl, ?_⟩
                  exact Or.inr ⟨xx205, (mO m203 [] []), (hx204), Tm203, (fr_m (fr_s Fm203 (fr_m (fr_s Fm190 (fr_m (fr_s Fm100 (fr_m (fr_s Fm16 (fr_m (fr_s Fm3 (fr_m fr_0 rfl rfl) rfl rfl) rfl rfl) rfl rfl) rfl rfl) rfl rfl) rfl rfl) rfl rfl) rfl rfl) rfl rfl) rfl rfl), rfl⟩
                refine Or.inl ⟨_, _, _, _, rfl, ?_⟩
                refine K_nb (st' := []) rfl ?_
                have g206 : (-1) ≤ m200.1 206 ∧ m200.1 206 ≤ 65535 := Tm200.1 206
                have g207 : 0 ≤ m200.1 207 ∧ m200.1 207 ≤ 4001 := Tm200.1 207
                replace h201 : (m190.1 206) = (59 : Int) := h201
                replace h202 : (m190.1 213) = 0 := h202
                rewrite [(show (m190.1 213) = (m.1 213) from ((fr1 Fm190 213 rfl).trans ((fr1 Fm100 213 rfl).trans ((fr1 Fm16 213 rfl).trans (fr1 Fm3 213 rfl)))))] at h202
                refine T_ret rfl (fun _ => rfl) ?_
                exact Or.inl ⟨(mO m200 [] []), Tm200, (fr_m (fr_s Fm200 (fr_m (fr_s Fm190 (fr_m (fr_s Fm100 (fr_m (fr_s Fm16 (fr_m (fr_s Fm3 (fr_m fr_0 rfl rfl) rfl rfl) rfl rfl) rfl rfl) rfl rfl) rfl rfl) rfl rfl) rfl rfl) rfl rfl) rfl rfl) rfl rfl), (show LTp (t + 1) (m200.2 74) (m.1 223) by rewrite [(show (m200.2 74) = (upI (m.2 74) t kn) from ((fr2 Fm200 74 rfl).trans ((fr2 Fm190 74 rfl).trans ((fr2 Fm100 74 rfl).trans (fr2 Fm16 74 rfl)))))]; first | (exact LT_s hTD (by omega) rfl) | (exfalso; omega)), rfl⟩
              · skip
                refine T_ld 179 (.ref 178) rfl (fun _ => rfl) ?_
                refine K_gf 182 (.ref 6) rfl rfl kd_178 rfl rfl rfl ?_
                refine T_ld 184 (.int (i32 8)) rfl (fun _ => rfl) ?_
                refine T_ld 185 (.int (i32 (m.1 207))) rfl (fun _ => rfl) ?_
                refine T_callx 188 51 [.ref 6, .int (i32 8), .int (i32 (m.1 207))] [] rfl (fun _ => rfl) rfl rfl (c_tx_fail w (mO m100 [] []) c N D (by omega) Tm100 8 (m.1 207) ⟨by decide, by decide⟩ (r32 (by omega) (by omega)) (show 1 ≤ (8 : Int) ∧ (8 : Int) ≤ 8 by omega) (show 0 ≤ (m.1 207) ∧ (m.1 207) ≤ 4001 by omega)) (fun rr208 k209 => ?_)
                rcases k209 with ⟨m210, Tm210, Fm210, h211, rfl⟩ | ⟨xx214, m212, hx213, Tm212, Fm212, rfl⟩
                rotate_left
                · skip
                  refine Or.inr ⟨_, _, _, _, rfl, ?_⟩
                  exact Or.inr ⟨xx214, (mO m212 [] []), (hx213), Tm212, (fr_m (fr_s Fm212 (fr_m (fr_s Fm100 (fr_m (fr_s Fm16 (fr_m (fr_s Fm3 (fr_m fr_0 rfl rfl) rfl rfl) rfl rfl) rfl rfl) rfl rfl) rfl rfl) rfl rfl) rfl rfl) rfl rfl), rfl⟩
                exact h211.elim
          · skip
            refine T_ld 84 (.int (i32 v97)) rfl (fun _ => rfl) ?_
            refine T_ld 86 (.int (i32 ((m.2 39) kn))) rfl (fun _ => rfl) ?_
            refine T_icmp 93 89 rfl rfl rfl (r32 (by omega) (by omega)) (r32 (by omega) (by omega)) (fun (h215 : (m.2 39) kn ≤ v97) => ?_) (fun (h215 : ¬ ((m.2 39) kn ≤ v97)) => ?_)
            · skip
              refine T_ld 94 (.int (i32 0)) rfl (fun _ => rfl) ?_
              refine T_sto 96 [(8, .int (i32 0)), (0, .ref 178), (1, .ref (tbr t)), (2, .int (i32 (m.1 207))), (3, .int (i32 kn)), (4, .int (i32 ((m.2 39) kn))), (5, .int (i32 v97)), (6, .int (i32 v98)), (7, .int (i32 v99))] rfl (fun _ => rfl) ?_
              refine T_ld 98 (.int (i32 0)) rfl (fun _ => rfl) ?_
              refine T_if 118 101 rfl rfl rfl ⟨by decide, by decide⟩ (fun _ => ?_) (fun h216 => absurd (show (0 : Int) = 0 by decide) h216)
              refine T_ld 120 (.int (i32 64)) rfl (fun _ => rfl) ?_
              refine T_sto 122 [(9, .int (i32 64)), (8, .int (i32 0)), (0, .ref 178), (1, .ref (tbr t)), (2, .int (i32 (m.1 207))), (3, .int (i32 kn)), (4, .int (i32 ((m.2 39) kn))), (5, .int (i32 v97)), (6, .int (i32 v98)), (7, .int (i32 v99))] rfl (fun _ => rfl) ?_
              refine T_ld 123 (.ref 178) rfl (fun _ => rfl) ?_
              refine T_ld 125 (.int (i32 64)) rfl (fun _ => rfl) ?_
              refine T_callx 128 115 [.ref 178, .int (i32 64)] [] rfl (fun _ => rfl) rfl rfl (c_rd_fittingNumber w (mO m100 [] []) c N D (by omega) Tm100 64 ⟨by decide, by decide⟩) (fun rr217 k218 => ?_)
              rcases k218 with ⟨m219, x220, Tm219, Fm219, g221, rfl⟩ | ⟨xx224, m222, hx223, Tm222, Fm222, rfl⟩
              rotate_left
              · skip
                refine Or.inr ⟨_, _, _, _, rfl, ?_⟩
                exact Or.inr ⟨xx224, (mO m222 [] []), (hx223), Tm222, (fr_m (fr_s Fm222 (fr_m (fr_s Fm100 (fr_m (fr_s Fm16 (fr_m (fr_s Fm3 (fr_m fr_0 rfl rfl) rfl rfl) rfl rfl) rfl rfl) rfl rfl) rfl rfl) rfl rfl) rfl rfl) rfl rfl), rfl⟩
              refine Or.inl ⟨_, _, _, _, rfl, ?_⟩
              refine K_nb (st' := [.long (i64 x220)]) rfl ?_
              obtain ⟨g221a, g221b⟩ := g221
              have g225 : (-1) ≤ m219.1 206 ∧ m219.1 206 ≤ 65535 := Tm219.1 206
              have g226 : 0 ≤ m219.1 207 ∧ m219.1 207 ≤ 4001 := Tm219.1 207
              refine T_sto 130 [(10, .long (i64 x220)), (9, .int (i32 64)), (8, .int (i32 0)), (0, .ref 178), (1, .ref (tbr t)), (2, .int (i32 (m.1 207))), (3, .int (i32 kn)), (4, .int (i32 ((m.2 39) kn))), (5, .int (i32 v97)), (6, .int (i32 v98)), (7, .int (i32 v99))] rfl (fun _ => rfl) ?_
              refine T_ld 132 (.int (i32 0)) rfl (fun _ => rfl) ?_
              refine T_if 144 135 rfl rfl rfl ⟨by decide, by decide⟩ (fun _ => ?_) (fun h227 => absurd (show (0 : Int) = 0 by decide) h227)
              refine T_iinc 147 [(5, .int (i32 (v97 + 1))), (10, .long (i64 x220)), (9, .int (i32 64)), (8, .int (i32 0)), (0, .ref 178), (1, .ref (tbr t)), (2, .int (i32 (m.1 207))), (3, .int (i32 kn)), (4, .int (i32 ((m.2 39) kn))), (6, .int (i32 v98)), (7, .int (i32 v99))] rfl rfl (by decide) rfl rfl ?_
              refine T_ld 148 (.ref 178) rfl (fun _ => rfl) ?_
              refine T_callx 151 120 [.ref 178] [] rfl (fun _ => rfl) rfl rfl (c_rd_goesOnList w (mO m219 [] []) c N D (by omega) Tm219 ) (fun rr228 k229 => ?_)
              rcases k229 with ⟨m230, gl, Tm230, Fm230, g231, rfl⟩ | ⟨xx234, m232, hx233, Tm232, Fm232, rfl⟩
              rotate_left
              · skip
                refine Or.inr ⟨_, _, _, _, rfl, ?_⟩
                exact Or.inr ⟨xx234, (mO m232 [] []), (hx233), Tm232, (fr_m (fr_s Fm232 (fr_m (fr_s Fm219 (fr_m (fr_s Fm100 (fr_m (fr_s Fm16 (fr_m (fr_s Fm3 (fr_m fr_0 rfl rfl) rfl rfl) rfl rfl) rfl rfl) rfl rfl) rfl rfl) rfl rfl) rfl rfl) rfl rfl) rfl rfl) rfl rfl), rfl⟩
              refine Or.inl ⟨_, _, _, _, rfl, ?_⟩
              refine K_nb (st' := [.int (i32 gl)]) rfl ?_
              obtain ⟨g231a, g231b⟩ := g231
              have g235 : (-1) ≤ m230.1 206 ∧ m230.1 206 ≤ 65535 := Tm230.1 206
              have g236 : 0 ≤ m230.1 207 ∧ m230.1 207 ≤ 4001 := Tm230.1 207
              refine T_sto 153 [(6, .int (i32 gl)), (5, .int (i32 (v97 + 1))), (10, .long (i64 x220)), (9, .int (i32 64)), (8, .int (i32 0)), (0, .ref 178), (1, .ref (tbr t)), (2, .int (i32 (m.1 207))), (3, .int (i32 kn)), (4, .int (i32 ((m.2 39) kn))), (7, .int (i32 v99))] rfl (fun _ => rfl) ?_
              refine T_iinc 156 [(7, .int (i32 (v99 + 1))), (6, .int (i32 gl)), (5, .int (i32 (v97 + 1))), (10, .long (i64 x220)), (9, .int (i32 64)), (8, .int (i32 0)), (0, .ref 178), (1, .ref (tbr t)), (2, .int (i32 (m.1 207))), (3, .int (i32 kn)), (4, .int (i32 ((m.2 39) kn)))] rfl rfl (by decide) rfl rfl ?_
              refine T_goto 69 rfl (fun _ => rfl) ?_
              refine Tm_lv (a := [(0, .ref 178), (1, .ref (tbr t)), (2, .int (i32 (m.1 207))), (3, .int (i32 kn)), (4, .int (i32 ((m.2 39) kn))), (5, .int (i32 (v97 + 1))), (6, .int (i32 gl)), (7, .int (i32 (v99 + 1)))]) rfl rfl ⟨rfl, rfl, rfl, rfl, rfl, rfl, rfl, rfl, trivial⟩ ?_
              exact ih114 (v97 + 1) gl (v99 + 1) (mO m230 [] []) (r32 (by omega) (by omega)) (r32 (by omega) (by omega)) (r32 (by omega) (by omega)) Tm230 (fr_m (fr_s Fm230 (fr_m (fr_s Fm219 (fr_m (fr_s Fm100 (fr_m fr_0 rfl rfl) rfl rfl) rfl rfl) rfl rfl) rfl rfl) rfl rfl) rfl rfl) (show 0 ≤ (v97 + 1) by omega) (show 0 ≤ gl by omega) (show gl ≤ 1 by omega) (show 0 ≤ (v99 + 1) by omega) (show 0 ≤ (v97 + 1) ∧ (v97 + 1) ≤ (v99 + 1) by omega) (show 0 ≤ (v99 + 1) ∧ (v99 + 1) ≤ 4001 by omega) (show 4010 - (v99 + 1) < (n113 : Int) by omega)
            · skip
              refine T_ld 90 (.int (i32 1)) rfl (fun _ => rfl) ?_
              refine T_goto 94 rfl (fun _ => rfl) ?_
              refine T_sto 96 [(8, .int (i32 1)), (0, .ref 178), (1, .ref (tbr t)), (2, .int (i32 (m.1 207))), (3, .int (i32 kn)), (4, .int (i32 ((m.2 39) kn))), (5, .int (i32 v97)), (6, .int (i32 v98)), (7, .int (i32 v99))] rfl (fun _ => rfl) ?_
              refine T_ld 98 (.int (i32 1)) rfl (fun _ => rfl) ?_
              refine T_if 118 101 rfl rfl rfl ⟨by decide, by decide⟩ (fun h237 => absurd (show (1 : Int) = 0 from h237) (by decide)) (fun _ => ?_)
              refine T_ld 102 (.ref 178) rfl (fun _ => rfl) ?_
              refine K_gf 105 (.ref 45) rfl rfl kd_178 rfl rfl rfl ?_
              refine K_gf 108 (.ref 47) rfl rfl kd_45 rfl rfl rfl ?_
              refine T_ld 109 (.int (i32 kn)) rfl (fun _ => rfl) ?_
              refine T_ld 110 (.int (i32 4)) rfl (fun _ => rfl) ?_
              refine T_imul 111 rfl rfl ?_
              refine T_ld 113 (.int (i32 v97)) rfl (fun _ => rfl) ?_
              refine T_iadd 114 rfl rfl ?_
              refine K_iald 115 40 (m.2 40) rfl rfl rfl (by omega) (show ((kn * 4) + v97) < (64 : Int) by omega) (show (m100.2 40) = (m.2 40) from ((fr2 Fm100 40 rfl).trans ((fr2 Fm16 40 rfl).trans (fr2 Fm3 40 rfl)))) ?_
              have e238 : 0 ≤ m.2 40 ((kn * 4) + v97) ∧ m.2 40 ((kn * 4) + v97) ≤ 64 := hT.2.1 40 ((kn * 4) + v97)
              refine T_goto 120 rfl (fun _ => rfl) ?_
              refine T_sto 122 [(9, .int (i32 ((m.2 40) ((kn * 4) + v97)))), (8, .int (i32 1)), (0, .ref 178), (1, .ref (tbr t)), (2, .int (i32 (m.1 207))), (3, .int (i32 kn)), (4, .int (i32 ((m.2 39) kn))), (5, .int (i32 v97)), (6, .int (i32 v98)), (7, .int (i32 v99))] rfl (fun _ => rfl) ?_
              refine T_ld 123 (.ref 178) rfl (fun _ => rfl) ?_
              refine T_ld 125 (.int (i32 ((m.2 40) ((kn * 4) + v97)))) rfl (fun _ => rfl) ?_
              refine T_callx 128 115 [.ref 178, .int (i32 ((m.2 40) ((kn * 4) + v97)))] [] rfl (fun _ => rfl) rfl rfl (c_rd_fittingNumber w (mO m100 [] []) c N D (by omega) Tm100 ((m.2 40) ((kn * 4) + v97)) (r32 (by omega) (by omega))) (fun rr239 k240 => ?_)
              rcases k240 with ⟨m241, x242, Tm241, Fm241, g243, rfl⟩ | ⟨xx246, m244, hx245, Tm244, Fm244, rfl⟩
              rotate_left
              · skip
                refine Or.inr ⟨_, _, _, _, rfl, ?_⟩
                exact Or.inr ⟨xx246, (mO m244 [] []), (hx245), Tm244, (fr_m (fr_s Fm244 (fr_m (fr_s Fm100 (fr_m (fr_s Fm16 (fr_m (fr_s Fm3 (fr_m fr_0 rfl rfl) rfl rfl) rfl rfl) rfl rfl) rfl rfl) rfl rfl) rfl rfl) rfl rfl) rfl rfl), rfl⟩
              refine Or.inl ⟨_, _, _, _, rfl, ?_⟩
              refine K_nb (st' := [.long (i64 x242)]) rfl ?_
              obtain ⟨g243a, g243b⟩ := g243
              have g247 : (-1) ≤ m241.1 206 ∧ m241.1 206 ≤ 65535 := Tm241.1 206
              have g248 : 0 ≤ m241.1 207 ∧ m241.1 207 ≤ 4001 := Tm241.1 207
              refine T_sto 130 [(10, .long (i64 x242)), (9, .int (i32 ((m.2 40) ((kn * 4) + v97)))), (8, .int (i32 1)), (0, .ref 178), (1, .ref (tbr t)), (2, .int (i32 (m.1 207))), (3, .int (i32 kn)), (4, .int (i32 ((m.2 39) kn))), (5, .int (i32 v97)), (6, .int (i32 v98)), (7, .int (i32 v99))] rfl (fun _ => rfl) ?_
              refine T_ld 132 (.int (i32 1)) rfl (fun _ => rfl) ?_
              refine T_if 144 135 rfl rfl rfl ⟨by decide, by decide⟩ (fun h249 => absurd (show (1 : Int) = 0 from h249) (by decide)) (fun _ => ?_)
              refine T_ld 136 (.ref (tbr t)) rfl (fun _ => rfl) ?_
              refine K_gfr 139 rfl rfl (by omega) (by omega) rfl ?_
              refine T_ld 141 (.int (i32 v97)) rfl (fun _ => rfl) ?_
              refine T_ld 143 (.long (i64 x242)) rfl (fun _ => rfl) ?_
              have G250 : ∀ j, (-9223372036854775808) ≤ (upI (m100.2 84) (65536 * t + v97) x242) j ∧ (upI (m100.2 84) (65536 * t + v97) x242) j ≤ 9223372036854775807 := upI_rg (Tm100.2.1 84) ⟨by omega, by omega⟩
              refine K_lastt (a' := [(84, upI (m100.2 84) (65536 * t + v97) x242)]) 144 5 (m100.2 84) rfl rfl rfl (by omega) (by omega) (by omega) (show v97 < (4 : Int) by omega) (show (m241.2 84) = (m100.2 84) from (fr2 Fm241 84 rfl)) rfl ?_
              refine T_iinc 147 [(5, .int (i32 (v97 + 1))), (10, .long (i64 x242)), (9, .int (i32 ((m.2 40) ((kn * 4) + v97)))), (8, .int (i32 1)), (0, .ref 178), (1, .ref (tbr t)), (2, .int (i32 (m.1 207))), (3, .int (i32 kn)), (4, .int (i32 ((m.2 39) kn))), (6, .int (i32 v98)), (7, .int (i32 v99))] rfl rfl (by decide) rfl rfl ?_
              refine T_ld 148 (.ref 178) rfl (fun _ => rfl) ?_
              refine T_callx 151 120 [.ref 178] [] rfl (fun _ => rfl) rfl rfl (c_rd_goesOnList w (mO m241 [] [(84, upI (m100.2 84) (65536 * t + v97) x242)]) c N D (by omega) (KTy_mO Tm241 rfl rfl trivial ⟨G250, trivial⟩) ) (fun rr251 k252 => ?_)
              rcases k252 with ⟨m253, gl, Tm253, Fm253, g254, rfl⟩ | ⟨xx257, m255, hx256, Tm255, Fm255, rfl⟩
              rotate_left
              · skip
                refine Or.inr ⟨_, _, _, _, rfl, ?_⟩
                exact Or.inr ⟨xx257, (mO m255 [] []), (hx256), Tm255, (fr_m (fr_s Fm255 (fr_m (fr_s Fm241 (fr_m (fr_s Fm100 (fr_m (fr_s Fm16 (fr_m (fr_s Fm3 (fr_m fr_0 rfl rfl) rfl rfl) rfl rfl) rfl rfl) rfl rfl) rfl rfl) rfl rfl) rfl rfl) rfl rfl) rfl rfl) rfl rfl), rfl⟩
              refine Or.inl ⟨_, _, _, _, rfl, ?_⟩
              refine K_nb (st' := [.int (i32 gl)]) rfl ?_
              obtain ⟨g254a, g254b⟩ := g254
              have g258 : (-1) ≤ m253.1 206 ∧ m253.1 206 ≤ 65535 := Tm253.1 206
              have g259 : 0 ≤ m253.1 207 ∧ m253.1 207 ≤ 4001 := Tm253.1 207
              refine T_sto 153 [(6, .int (i32 gl)), (5, .int (i32 (v97 + 1))), (10, .long (i64 x242)), (9, .int (i32 ((m.2 40) ((kn * 4) + v97)))), (8, .int (i32 1)), (0, .ref 178), (1, .ref (tbr t)), (2, .int (i32 (m.1 207))), (3, .int (i32 kn)), (4, .int (i32 ((m.2 39) kn))), (7, .int (i32 v99))] rfl (fun _ => rfl) ?_
              refine T_iinc 156 [(7, .int (i32 (v99 + 1))), (6, .int (i32 gl)), (5, .int (i32 (v97 + 1))), (10, .long (i64 x242)), (9, .int (i32 ((m.2 40) ((kn * 4) + v97)))), (8, .int (i32 1)), (0, .ref 178), (1, .ref (tbr t)), (2, .int (i32 (m.1 207))), (3, .int (i32 kn)), (4, .int (i32 ((m.2 39) kn)))] rfl rfl (by decide) rfl rfl ?_
              refine T_goto 69 rfl (fun _ => rfl) ?_
              refine Tm_lv (a := [(0, .ref 178), (1, .ref (tbr t)), (2, .int (i32 (m.1 207))), (3, .int (i32 kn)), (4, .int (i32 ((m.2 39) kn))), (5, .int (i32 (v97 + 1))), (6, .int (i32 gl)), (7, .int (i32 (v99 + 1)))]) rfl rfl ⟨rfl, rfl, rfl, rfl, rfl, rfl, rfl, rfl, trivial⟩ ?_
              exact ih114 (v97 + 1) gl (v99 + 1) (mO m253 [] []) (r32 (by omega) (by omega)) (r32 (by omega) (by omega)) (r32 (by omega) (by omega)) Tm253 (fr_m (fr_s Fm253 (fr_m (fr_s Fm241 (fr_m (fr_s Fm100 (fr_m fr_0 rfl rfl) rfl rfl) rfl rfl) rfl rfl) rfl rfl) rfl rfl) rfl rfl) (show 0 ≤ (v97 + 1) by omega) (show 0 ≤ gl by omega) (show gl ≤ 1 by omega) (show 0 ≤ (v99 + 1) by omega) (show 0 ≤ (v97 + 1) ∧ (v97 + 1) ≤ (v99 + 1) by omega) (show 0 ≤ (v99 + 1) ∧ (v99 + 1) ≤ 4001 by omega) (show 4010 - (v99 + 1) < (n113 : Int) by omega)
    refine Tm_lv (a := [(0, .ref 178), (1, .ref (tbr t)), (2, .int (i32 (m.1 207))), (3, .int (i32 kn)), (4, .int (i32 ((m.2 39) kn))), (5, .int (i32 0)), (6, .int (i32 1)), (7, .int (i32 0))]) rfl rfl ⟨rfl, rfl, rfl, rfl, rfl, rfl, rfl, rfl, trivial⟩ ?_
    exact L69_101 ((4010 - (0 : Int) : Int) + 1).toNat 0 1 0 (mO m16 [] []) ⟨by decide, by decide⟩ ⟨by decide, by decide⟩ ⟨by decide, by decide⟩ Tm16 (fr_m fr_0 rfl rfl) (show 0 ≤ (0 : Int) by omega) (show 0 ≤ (1 : Int) by omega) (show (1 : Int) ≤ 1 by omega) (show 0 ≤ (0 : Int) by omega) (show 0 ≤ (0 : Int) ∧ (0 : Int) ≤ (0 : Int) by omega) (show 0 ≤ (0 : Int) ∧ (0 : Int) ≤ 4001 by omega) (show 4010 - (0 : Int) < ((((4010 - (0 : Int) : Int) + 1).toNat : Nat) : Int) by omega)
def fF_rd_roomLine : List Nat := [205, 206, 207, 208, 209, 210, 211, 212]
def fA_rd_roomLine : List Nat := [75, 76, 77]
def Q_rd_roomLine (m : mR) (c : Nat → Option am_C) (N : Nat) (t : Int) : ag_Re af_T → Prop := fun R => (∃ (M : mR), KTy M ∧ fr fF_rd_roomLine fA_rd_roomLine m M ∧ R = (.inl (none), (khp M c, N), 0, 0)) ∨ (∃ (x : Nat) (M : mR), (x = 0) ∧ (KTy M) ∧ (fr fF_rd_roomLine fA_rd_roomLine m M) ∧ R = (.inr x, (khp M c, N), 1, 6))
set_option maxHeartbeats 3000000 in
theorem c_rd_roomLine (w : wX) (m : mR) (c : Nat → Option am_C) (N D : Nat) (hD : 9 ≤ D) (hT : KTy m) (t : Int) (qt : R32 t) (p0 : 0 ≤ t ∧ t ≤ 7) : TC w D 134 [.ref 178, .ref (tbr t)] (khp m c, N) (Q_rd_roomLine m c N t) := by
  obtain ⟨D, rfl⟩ : ∃ k, D = k + 1 := ⟨D - 1, by omega⟩
  obtain ⟨qta, qtb⟩ := id qt
  have f206 : (-1) ≤ m.1 206 ∧ m.1 206 ≤ 65535 := hT.1 206
  have f207 : 0 ≤ m.1 207 ∧ m.1 207 ≤ 4001 := hT.1 207
  have f208 : (-9223372036854775808) ≤ m.1 208 ∧ m.1 208 ≤ 9223372036854775807 := hT.1 208
  have f213 : 0 ≤ m.1 213 ∧ m.1 213 ≤ 1 := hT.1 213
  refine Tc_of rfl ?_
  rw [show (khp m c, N) = (khp (mO m [] []) c, N) from by rw [mO_nil m]]
  show TT w D pm_134 (0, [(0, .ref 178), (1, .ref (tbr t))], [], (khp (mO m [] []) c, N), 0, 0) (Q_rd_roomLine m c N t)
  refine T_ld 1 (.ref (tbr t)) rfl (fun _ => rfl) ?_
  refine T_callx 4 135 [.ref (tbr t)] [] rfl (inv_vt (args := []) (khp_t0 _ (by omega) (by omega)) rfl rfl rfl) rfl rfl (c_tb_isHashed w (mO m [] []) c N D (by omega) hT t (r32 (by omega) (by omega)) (show 0 ≤ t ∧ t ≤ 7 by omega)) (fun rr1 k2 => ?_)
  obtain ⟨x3, g4, rfl⟩ := k2
  refine Or.inl ⟨_, _, _, _, rfl, ?_⟩
  refine T_ns (st' := [.int (i32 x3)]) rfl ?_
  obtain ⟨g4a, g4b⟩ := g4
  refine T_sto 5 [(2, .int (i32 x3)), (0, .ref 178), (1, .ref (tbr t))] rfl (fun _ => rfl) ?_
  refine T_ld 6 (.ref 178) rfl (fun _ => rfl) ?_
  refine K_gf 9 (.ref 6) rfl rfl kd_178 rfl rfl rfl ?_
  refine K_gf 12 (.int (i32 (m.1 207))) rfl rfl kd_6 rfl rfl rfl ?_
  refine T_sto 13 [(3, .int (i32 (m.1 207))), (2, .int (i32 x3)), (0, .ref 178), (1, .ref (tbr t))] rfl (fun _ => rfl) ?_
  refine T_ld 14 (.ref 178) rfl (fun _ => rfl) ?_
  refine K_gf 17 (.ref 6) rfl rfl kd_178 rfl rfl rfl ?_
  refine K_gf 20 (.int (i32 (m.1 206))) rfl rfl kd_6 rfl rfl rfl ?_
  refine T_ld 23 (.int (i32 257)) rfl (fun _ => rfl) ?_
  refine T_icmp 30 26 rfl rfl rfl (r32 (by omega) (by omega)) ⟨by decide, by decide⟩ (fun (h5 : (m.1 206) ≠ 257) => ?_) (fun (h5 : ¬ ((m.1 206) ≠ 257)) => ?_)
  · skip
    refine T_ld 31 (.int (i32 0)) rfl (fun _ => rfl) ?_
    refine T_sto 33 [(4, .int (i32 0)), (3, .int (i32 (m.1 207))), (2, .int (i32 x3)), (0, .ref 178), (1, .ref (tbr t))] rfl (fun _ => rfl) ?_
    refine T_ld 34 (.ref 178) rfl (fun _ => rfl) ?_
    refine K_gf 37 (.ref 6) rfl rfl kd_178 rfl rfl rfl ?_
    refine K_gf 40 (.long (i64 (m.1 208))) rfl rfl kd_6 rfl rfl rfl ?_
    refine T_ld 41 (.long (i64 0)) rfl (fun _ => rfl) ?_
    refine T_lcmp 42 rfl rfl (r64 (by omega) (by omega)) ⟨by decide, by decide⟩ (fun z6 h7 => ?_)
    obtain ⟨h7a, h7b, h7c, h7d, h7e⟩ := h7
    refine T_if 71 45 rfl rfl rfl (r32 (by omega) (by omega)) (fun (h8 : z6 ≤ 0) => ?_) (fun (h8 : ¬ (z6 ≤ 0)) => ?_)
    · skip
      have hl9 : (m.1 208) ≤ 0 := by omega
      refine T_ld 72 (.int (i32 0)) rfl (fun _ => rfl) ?_
      refine T_sto 74 [(5, .int (i32 0)), (4, .int (i32 0)), (3, .int (i32 (m.1 207))), (2, .int (i32 x3)), (0, .ref 178), (1, .ref (tbr t))] rfl (fun _ => rfl) ?_
      refine T_ld 76 (.int (i32 0)) rfl (fun _ => rfl) ?_
      refine T_if 97 79 rfl rfl rfl ⟨by decide, by decide⟩ (fun _ => ?_) (fun h10 => absurd (show (0 : Int) = 0 by decide) h10)
      refine T_ld 98 (.ref (tbr t)) rfl (fun _ => rfl) ?_
      refine T_ld 99 (.ref 178) rfl (fun _ => rfl) ?_
      refine K_gf 102 (.ref 6) rfl rfl kd_178 rfl rfl rfl ?_
      refine T_ld 103 (.int (i32 1)) rfl (fun _ => rfl) ?_
      refine T_ld 104 (.int (i32 x3)) rfl (fun _ => rfl) ?_
      refine T_if 112 107 rfl rfl rfl (r32 (by omega) (by omega)) (fun (h11 : x3 = 0) => ?_) (fun (h11 : ¬ (x3 = 0)) => ?_)
      · skip
        refine T_ld 114 (.int (i32 32)) rfl (fun _ => rfl) ?_
        refine T_callx 117 81 [.ref 6, .int (i32 1), .int (i32 32)] [.ref (tbr t)] rfl (fun _ => rfl) rfl rfl (c_tx_within w (mO m [] []) c N D (by omega) hT 1 32 ⟨by decide, by decide⟩ ⟨by decide, by decide⟩ (show 0 ≤ (1 : Int) ∧ (1 : Int) ≤ (32 : Int) ∧ (32 : Int) ≤ 64 by omega)) (fun rr12 k13 => ?_)
        rcases k13 with ⟨m14, wn, Tm14, Fm14, g15, h16, h17, rfl⟩ | ⟨xx20, m18, hx19, Tm18, Fm18, rfl⟩
        rotate_left
        · skip
          refine Or.inr ⟨_, _, _, _, rfl, ?_⟩
          exact Or.inr ⟨xx20, (mO m18 [] []), (hx19), Tm18, (fr_m (fr_s Fm18 (fr_m fr_0 rfl rfl) rfl rfl) rfl rfl), rfl⟩
        refine Or.inl ⟨_, _, _, _, rfl, ?_⟩
        refine K_nb (st' := [.int (i32 wn), .ref (tbr t)]) rfl ?_
        obtain ⟨g15a, g15b⟩ := g15
        have g21 : (-1) ≤ m14.1 206 ∧ m14.1 206 ≤ 65535 := Tm14.1 206
        have g22 : 0 ≤ m14.1 207 ∧ m14.1 207 ≤ 4001 := Tm14.1 207
        have g23 : (-9223372036854775808) ≤ m14.1 208 ∧ m14.1 208 ≤ 9223372036854775807 := Tm14.1 208
        replace h16 : (1 : Int) ≤ wn ∧ wn ≤ (32 : Int) := h16
        replace h17 : (m.1 213) = 0 := h17
        have G24 : ∀ j, 0 ≤ (upI (m.2 75) t wn) j ∧ (upI (m.2 75) t wn) j ≤ 32 := upI_rg (hT.2.1 75) ⟨by omega, by omega⟩
        refine K_pfi (a' := [(75, upI (m.2 75) t wn)]) 120 75 (m.2 75) rfl rfl rfl (by omega) (by omega) (show (m14.2 75) = (m.2 75) from (fr2 Fm14 75 rfl)) rfl rfl ?_
        refine T_ld 121 (.int (i32 x3)) rfl (fun _ => rfl) ?_
        refine T_if 171 124 rfl rfl rfl (r32 (by omega) (by omega)) (fun (h25 : x3 = 0) => ?_) (fun (h25 : ¬ (x3 = 0)) => by exfalso; omega)
        refine T_ld 172 (.ref 178) rfl (fun _ => rfl) ?_
        refine K_gf 175 (.ref 6) rfl rfl kd_178 rfl rfl rfl ?_
        refine T_ld 177 (.int (i32 59)) rfl (fun _ => rfl) ?_
        refine T_callx 180 78 [.ref 6, .int (i32 59)] [] rfl (fun _ => rfl) rfl rfl (c_tx_expect w (mO m14 [] [(75, upI (m.2 75) t wn)]) c N D (by omega) (KTy_mO Tm14 rfl rfl trivial ⟨G24, trivial⟩) 59 ⟨by decide, by decide⟩) (fun rr26 k27 => ?_)
        rcases k27 with ⟨m28, Tm28, Fm28, h29, h30, rfl⟩ | ⟨xx33, m31, hx32, Tm31, Fm31, rfl⟩
        rotate_left
        · skip
          refine Or.inr ⟨_, _, _, _, rfl, ?_⟩
          exact Or.inr ⟨xx33, (mO m31 [] []), (hx32), Tm31, (fr_m (fr_s Fm31 (fr_m (fr_s Fm14 (fr_m fr_0 rfl rfl) rfl rfl) rfl rfl) rfl rfl) rfl rfl), rfl⟩
        refine Or.inl ⟨_, _, _, _, rfl, ?_⟩
        refine K_nb (st' := []) rfl ?_
        have g34 : (-1) ≤ m28.1 206 ∧ m28.1 206 ≤ 65535 := Tm28.1 206
        have g35 : 0 ≤ m28.1 207 ∧ m28.1 207 ≤ 4001 := Tm28.1 207
        have g36 : (-9223372036854775808) ≤ m28.1 208 ∧ m28.1 208 ≤ 9223372036854775807 := Tm28.1 208
        replace h29 : (m14.1 206) = (59 : Int) := h29
        replace h30 : (m14.1 213) = 0 := h30
        rewrite [(show (m14.1 213) = (m.1 213) from (fr1 Fm14 213 rfl))] at h30
        refine T_ret rfl (fun _ => rfl) ?_
        exact Or.inl ⟨(mO m28 [] []), Tm28, (fr_m (fr_s Fm28 (fr_m (fr_s Fm14 (fr_m fr_0 rfl rfl) rfl rfl) rfl rfl) rfl rfl) rfl rfl), rfl⟩
      · skip
        refine T_ld 109 (.int (i32 16)) rfl (fun _ => rfl) ?_
        refine T_goto 114 rfl (fun _ => rfl) ?_
        refine T_callx 117 81 [.ref 6, .int (i32 1), .int (i32 16)] [.ref (tbr t)] rfl (fun _ => rfl) rfl rfl (c_tx_within w (mO m [] []) c N D (by omega) hT 1 16 ⟨by decide, by decide⟩ ⟨by decide, by decide⟩ (show 0 ≤ (1 : Int) ∧ (1 : Int) ≤ (16 : Int) ∧ (16 : Int) ≤ 64 by omega)) (fun rr37 k38 => ?_)
        rcases k38 with ⟨m39, wn, Tm39, Fm39, g40, h41, h42, rfl⟩ | ⟨xx45, m43, hx44, Tm43, Fm43, rfl⟩
        rotate_left
        · skip
          refine Or.inr ⟨_, _, _, _, rfl, ?_⟩
          exact Or.inr ⟨xx45, (mO m43 [] []), (hx44), Tm43, (fr_m (fr_s Fm43 (fr_m fr_0 rfl rfl) rfl rfl) rfl rfl), rfl⟩
        refine Or.inl ⟨_, _, _, _, rfl, ?_⟩
        refine K_nb (st' := [.int (i32 wn), .ref (tbr t)]) rfl ?_
        obtain ⟨g40a, g40b⟩ := g40
        have g46 : (-1) ≤ m39.1 206 ∧ m39.1 206 ≤ 65535 := Tm39.1 206
        have g47 : 0 ≤ m39.1 207 ∧ m39.1 207 ≤ 4001 := Tm39.1 207
        have g48 : (-9223372036854775808) ≤ m39.1 208 ∧ m39.1 208 ≤ 9223372036854775807 := Tm39.1 208
        replace h41 : (1 : Int) ≤ wn ∧ wn ≤ (16 : Int) := h41
        replace h42 : (m.1 213) = 0 := h42
        have G49 : ∀ j, 0 ≤ (upI (m.2 75) t wn) j ∧ (upI (m.2 75) t wn) j ≤ 32 := upI_rg (hT.2.1 75) ⟨by omega, by omega⟩
        refine K_pfi (a' := [(75, upI (m.2 75) t wn)]) 120 75 (m.2 75) rfl rfl rfl (by omega) (by omega) (show (m39.2 75) = (m.2 75) from (fr2 Fm39 75 rfl)) rfl rfl ?_
        refine T_ld 121 (.int (i32 x3)) rfl (fun _ => rfl) ?_
        refine T_if 171 124 rfl rfl rfl (r32 (by omega) (by omega)) (fun (h50 : x3 = 0) => by exfalso; omega) (fun (h50 : ¬ (x3 = 0)) => ?_)
        refine T_ld 125 (.ref 178) rfl (fun _ => rfl) ?_
        refine K_gf 128 (.ref 6) rfl rfl kd_178 rfl rfl rfl ?_
        refine T_ld 131 (.int (i32 317)) rfl (fun _ => rfl) ?_
        refine T_callx 134 78 [.ref 6, .int (i32 317)] [] rfl (fun _ => rfl) rfl rfl (c_tx_expect w (mO m39 [] [(75, upI (m.2 75) t wn)]) c N D (by omega) (KTy_mO Tm39 rfl rfl trivial ⟨G49, trivial⟩) 317 ⟨by decide, by decide⟩) (fun rr51 k52 => ?_)
        rcases k52 with ⟨m53, Tm53, Fm53, h54, h55, rfl⟩ | ⟨xx58, m56, hx57, Tm56, Fm56, rfl⟩
        rotate_left
        · skip
          refine Or.inr ⟨_, _, _, _, rfl, ?_⟩
          exact Or.inr ⟨xx58, (mO m56 [] []), (hx57), Tm56, (fr_m (fr_s Fm56 (fr_m (fr_s Fm39 (fr_m fr_0 rfl rfl) rfl rfl) rfl rfl) rfl rfl) rfl rfl), rfl⟩
        refine Or.inl ⟨_, _, _, _, rfl, ?_⟩
        refine K_nb (st' := []) rfl ?_
        have g59 : (-1) ≤ m53.1 206 ∧ m53.1 206 ≤ 65535 := Tm53.1 206
        have g60 : 0 ≤ m53.1 207 ∧ m53.1 207 ≤ 4001 := Tm53.1 207
        have g61 : (-9223372036854775808) ≤ m53.1 208 ∧ m53.1 208 ≤ 9223372036854775807 := Tm53.1 208
        replace h54 : (m39.1 206) = (317 : Int) := h54
        replace h55 : (m39.1 213) = 0 := h55
        rewrite [(show (m39.1 213) = (m.1 213) from (fr1 Fm39 213 rfl))] at h55
        refine T_ld 135 (.ref (tbr t)) rfl (fun _ => rfl) ?_
        refine T_ld 136 (.ref 178) rfl (fun _ => rfl) ?_
        refine K_gf 139 (.ref 6) rfl rfl kd_178 rfl rfl rfl ?_
        refine T_ld 140 (.int (i32 1)) rfl (fun _ => rfl) ?_
        refine T_ld 141 (.int (i32 4)) rfl (fun _ => rfl) ?_
        refine T_callx 144 81 [.ref 6, .int (i32 1), .int (i32 4)] [.ref (tbr t)] rfl (fun _ => rfl) rfl rfl (c_tx_within w (mO m53 [] []) c N D (by omega) Tm53 1 4 ⟨by decide, by decide⟩ ⟨by decide, by decide⟩ (show 0 ≤ (1 : Int) ∧ (1 : Int) ≤ (4 : Int) ∧ (4 : Int) ≤ 64 by omega)) (fun rr62 k63 => ?_)
        rcases k63 with ⟨m64, wn65, Tm64, Fm64, g66, h67, h68, rfl⟩ | ⟨xx71, m69, hx70, Tm69, Fm69, rfl⟩
        rotate_left
        · skip
          refine Or.inr ⟨_, _, _, _, rfl, ?_⟩
          exact Or.inr ⟨xx71, (mO m69 [] []), (hx70), Tm69, (fr_m (fr_s Fm69 (fr_m (fr_s Fm53 (fr_m (fr_s Fm39 (fr_m fr_0 rfl rfl) rfl rfl) rfl rfl) rfl rfl) rfl rfl) rfl rfl) rfl rfl), rfl⟩
        refine Or.inl ⟨_, _, _, _, rfl, ?_⟩
        refine K_nb (st' := [.int (i32 wn65), .ref (tbr t)]) rfl ?_
        obtain ⟨g66a, g66b⟩ := g66
        have g72 : (-1) ≤ m64.1 206 ∧ m64.1 206 ≤ 65535 := Tm64.1 206
        have g73 : 0 ≤ m64.1 207 ∧ m64.1 207 ≤ 4001 := Tm64.1 207
        have g74 : (-9223372036854775808) ≤ m64.1 208 ∧ m64.1 208 ≤ 9223372036854775807 := Tm64.1 208
        replace h67 : (1 : Int) ≤ wn65 ∧ wn65 ≤ (4 : Int) := h67
        replace h68 : (m53.1 213) = 0 := h68
        rewrite [(show (m53.1 213) = (m.1 213) from ((fr1 Fm53 213 rfl).trans (fr1 Fm39 213 rfl)))] at h68
        have G75 : ∀ j, 0 ≤ (upI (m.2 76) t wn65) j ∧ (upI (m.2 76) t wn65) j ≤ 4 := upI_rg (hT.2.1 76) ⟨by omega, by omega⟩
        refine K_pfi (a' := [(76, upI (m.2 76) t wn65)]) 147 76 (m.2 76) rfl rfl rfl (by omega) (by omega) (show (m64.2 76) = (m.2 76) from ((fr2 Fm64 76 rfl).trans ((fr2 Fm53 76 rfl).trans (fr2 Fm39 76 rfl)))) rfl rfl ?_
        refine T_ld 148 (.ref 178) rfl (fun _ => rfl) ?_
        refine K_gf 151 (.ref 6) rfl rfl kd_178 rfl rfl rfl ?_
        refine T_ld 154 (.int (i32 318)) rfl (fun _ => rfl) ?_
        refine T_callx 157 78 [.ref 6, .int (i32 318)] [] rfl (fun _ => rfl) rfl rfl (c_tx_expect w (mO m64 [] [(76, upI (m.2 76) t wn65)]) c N D (by omega) (KTy_mO Tm64 rfl rfl trivial ⟨G75, trivial⟩) 318 ⟨by decide, by decide⟩) (fun rr76 k77 => ?_)
        rcases k77 with ⟨m78, Tm78, Fm78, h79, h80, rfl⟩ | ⟨xx83, m81, hx82, Tm81, Fm81, rfl⟩
        rotate_left
        · skip
          refine Or.inr ⟨_, _, _, _, rfl, ?_⟩
          exact Or.inr ⟨xx83, (mO m81 [] []), (hx82), Tm81, (fr_m (fr_s Fm81 (fr_m (fr_s Fm64 (fr_m (fr_s Fm53 (fr_m (fr_s Fm39 (fr_m fr_0 rfl rfl) rfl rfl) rfl rfl) rfl rfl) rfl rfl) rfl rfl) rfl rfl) rfl rfl) rfl rfl), rfl⟩
        refine Or.inl ⟨_, _, _, _, rfl, ?_⟩
        refine K_nb (st' := []) rfl ?_
        have g84 : (-1) ≤ m78.1 206 ∧ m78.1 206 ≤ 65535 := Tm78.1 206
        have g85 : 0 ≤ m78.1 207 ∧ m78.1 207 ≤ 4001 := Tm78.1 207
        have g86 : (-9223372036854775808) ≤ m78.1 208 ∧ m78.1 208 ≤ 9223372036854775807 := Tm78.1 208
        replace h79 : (m64.1 206) = (318 : Int) := h79
        replace h80 : (m64.1 213) = 0 := h80
        rewrite [(show (m64.1 213) = (m.1 213) from ((fr1 Fm64 213 rfl).trans ((fr1 Fm53 213 rfl).trans (fr1 Fm39 213 rfl))))] at h80
        refine T_ld 158 (.ref (tbr t)) rfl (fun _ => rfl) ?_
        refine T_ld 159 (.ref 178) rfl (fun _ => rfl) ?_
        refine K_gf 162 (.ref 6) rfl rfl kd_178 rfl rfl rfl ?_
        refine T_ld 163 (.int (i32 0)) rfl (fun _ => rfl) ?_
        refine T_ld 165 (.int (i32 8)) rfl (fun _ => rfl) ?_
        refine T_callx 168 81 [.ref 6, .int (i32 0), .int (i32 8)] [.ref (tbr t)] rfl (fun _ => rfl) rfl rfl (c_tx_within w (mO m78 [] []) c N D (by omega) Tm78 0 8 ⟨by decide, by decide⟩ ⟨by decide, by decide⟩ (show 0 ≤ (0 : Int) ∧ (0 : Int) ≤ (8 : Int) ∧ (8 : Int) ≤ 64 by omega)) (fun rr87 k88 => ?_)
        rcases k88 with ⟨m89, wn90, Tm89, Fm89, g91, h92, h93, rfl⟩ | ⟨xx96, m94, hx95, Tm94, Fm94, rfl⟩
        rotate_left
        · skip
          refine Or.inr ⟨_, _, _, _, rfl, ?_⟩
          exact Or.inr ⟨xx96, (mO m94 [] []), (hx95), Tm94, (fr_m (fr_s Fm94 (fr_m (fr_s Fm78 (fr_m (fr_s Fm64 (fr_m (fr_s Fm53 (fr_m (fr_s Fm39 (fr_m fr_0 rfl rfl) rfl rfl) rfl rfl) rfl rfl) rfl rfl) rfl rfl) rfl rfl) rfl rfl) rfl rfl) rfl rfl) rfl rfl), rfl⟩
        refine Or.inl ⟨_, _, _, _, rfl, ?_⟩
        refine K_nb (st' := [.int (i32 wn90), .ref (tbr t)]) rfl ?_
        obtain ⟨g91a, g91b⟩ := g91
        have g97 : (-1) ≤ m89.1 206 ∧ m89.1 206 ≤ 65535 := Tm89.1 206
        have g98 : 0 ≤ m89.1 207 ∧ m89.1 207 ≤ 4001 := Tm89.1 207
        have g99 : (-9223372036854775808) ≤ m89.1 208 ∧ m89.1 208 ≤ 9223372036854775807 := Tm89.1 208
        replace h92 : (0 : Int) ≤ wn90 ∧ wn90 ≤ (8 : Int) := h92
        replace h93 : (m78.1 213) = 0 := h93
        rewrite [(show (m78.1 213) = (m.1 213) from ((fr1 Fm78 213 rfl).trans ((fr1 Fm64 213 rfl).trans ((fr1 Fm53 213 rfl).trans (fr1 Fm39 213 rfl)))))] at h93
        have G100 : ∀ j, 0 ≤ (upI (m.2 77) t wn90) j ∧ (upI (m.2 77) t wn90) j ≤ 8 := upI_rg (hT.2.1 77) ⟨by omega, by omega⟩
        refine K_pfi (a' := [(77, upI (m.2 77) t wn90)]) 171 77 (m.2 77) rfl rfl rfl (by omega) (by omega) (show (m89.2 77) = (m.2 77) from ((fr2 Fm89 77 rfl).trans ((fr2 Fm78 77 rfl).trans ((fr2 Fm64 77 rfl).trans ((fr2 Fm53 77 rfl).trans (fr2 Fm39 77 rfl)))))) rfl rfl ?_
        refine T_ld 172 (.ref 178) rfl (fun _ => rfl) ?_
        refine K_gf 175 (.ref 6) rfl rfl kd_178 rfl rfl rfl ?_
        refine T_ld 177 (.int (i32 59)) rfl (fun _ => rfl) ?_
        refine T_callx 180 78 [.ref 6, .int (i32 59)] [] rfl (fun _ => rfl) rfl rfl (c_tx_expect w (mO m89 [] [(77, upI (m.2 77) t wn90)]) c N D (by omega) (KTy_mO Tm89 rfl rfl trivial ⟨G100, trivial⟩) 59 ⟨by decide, by decide⟩) (fun rr101 k102 => ?_)
        rcases k102 with ⟨m103, Tm103, Fm103, h104, h105, rfl⟩ | ⟨xx108, m106, hx107, Tm106, Fm106, rfl⟩
        rotate_left
        · skip
          refine Or.inr ⟨_, _, _, _, rfl, ?_⟩
          exact Or.inr ⟨xx108, (mO m106 [] []), (hx107), Tm106, (fr_m (fr_s Fm106 (fr_m (fr_s Fm89 (fr_m (fr_s Fm78 (fr_m (fr_s Fm64 (fr_m (fr_s Fm53 (fr_m (fr_s Fm39 (fr_m fr_0 rfl rfl) rfl rfl) rfl rfl) rfl rfl) rfl rfl) rfl rfl) rfl rfl) rfl rfl) rfl rfl) rfl rfl) rfl rfl) rfl rfl) rfl rfl), rfl⟩
        refine Or.inl ⟨_, _, _, _, rfl, ?_⟩
        refine K_nb (st' := []) rfl ?_
        have g109 : (-1) ≤ m103.1 206 ∧ m103.1 206 ≤ 65535 := Tm103.1 206
        have g110 : 0 ≤ m103.1 207 ∧ m103.1 207 ≤ 4001 := Tm103.1 207
        have g111 : (-9223372036854775808) ≤ m103.1 208 ∧ m103.1 208 ≤ 9223372036854775807 := Tm103.1 208
        replace h104 : (m89.1 206) = (59 : Int) := h104
        replace h105 : (m89.1 213) = 0 := h105
        rewrite [(show (m89.1 213) = (m.1 213) from ((fr1 Fm89 213 rfl).trans ((fr1 Fm78 213 rfl).trans ((fr1 Fm64 213 rfl).trans ((fr1 Fm53 213 rfl).trans (fr1 Fm39 213 rfl))))))] at h105
        refine T_ret rfl (fun _ => rfl) ?_
        exact Or.inl ⟨(mO m103 [] []), Tm103, (fr_m (fr_s Fm103 (fr_m (fr_s Fm89 (fr_m (fr_s Fm78 (fr_m (fr_s Fm64 (fr_m (fr_s Fm53 (fr_m (fr_s Fm39 (fr_m fr_0 rfl rfl) rfl rfl) rfl rfl) rfl rfl) rfl rfl) rfl rfl) rfl rfl) rfl rfl) rfl rfl) rfl rfl) rfl rfl) rfl rfl) rfl rfl), rfl⟩
    · skip
      have hl112 : (m.1 208) > 0 := by omega
      refine T_ld 46 (.ref 178) rfl (fun _ => rfl) ?_
      refine K_gf 49 (.ref 6) rfl rfl kd_178 rfl rfl rfl ?_
      refine K_gf 52 (.long (i64 (m.1 208))) rfl rfl kd_6 rfl rfl rfl ?_
      refine T_ld 53 (.ref 178) rfl (fun _ => rfl) ?_
      refine K_gf 56 (.ref 6) rfl rfl kd_178 rfl rfl rfl ?_
      refine K_gf 59 (.long (i64 (m.1 208))) rfl rfl kd_6 rfl rfl rfl ?_
      refine T_ld 60 (.long (i64 1)) rfl (fun _ => rfl) ?_
      refine T_lsub 61 rfl rfl ?_
      refine T_lnm (fun z113 h114 => ?_)
      obtain ⟨h114a, h114b⟩ := h114
      refine T_lhv 62 _ rfl (fun _ => rfl) (fun z115 h116 => ?_)
      obtain ⟨h116a, h116b⟩ := h116
      refine T_ld 63 (.long (i64 0)) rfl (fun _ => rfl) ?_
      refine T_lcmp 64 rfl rfl (r64 (by omega) (by omega)) ⟨by decide, by decide⟩ (fun z117 h118 => ?_)
      obtain ⟨h118a, h118b, h118c, h118d, h118e⟩ := h118
      refine T_if 71 67 rfl rfl rfl (r32 (by omega) (by omega)) (fun (h119 : z117 ≠ 0) => ?_) (fun (h119 : ¬ (z117 ≠ 0)) => ?_)
      · skip
        have hl120 : z115 ≠ 0 := by omega
        refine T_ld 72 (.int (i32 0)) rfl (fun _ => rfl) ?_
        refine T_sto 74 [(5, .int (i32 0)), (4, .int (i32 0)), (3, .int (i32 (m.1 207))), (2, .int (i32 x3)), (0, .ref 178), (1, .ref (tbr t))] rfl (fun _ => rfl) ?_
        refine T_ld 76 (.int (i32 0)) rfl (fun _ => rfl) ?_
        refine T_if 97 79 rfl rfl rfl ⟨by decide, by decide⟩ (fun _ => ?_) (fun h121 => absurd (show (0 : Int) = 0 by decide) h121)
        refine T_ld 98 (.ref (tbr t)) rfl (fun _ => rfl) ?_
        refine T_ld 99 (.ref 178) rfl (fun _ => rfl) ?_
        refine K_gf 102 (.ref 6) rfl rfl kd_178 rfl rfl rfl ?_
        refine T_ld 103 (.int (i32 1)) rfl (fun _ => rfl) ?_
        refine T_ld 104 (.int (i32 x3)) rfl (fun _ => rfl) ?_
        refine T_if 112 107 rfl rfl rfl (r32 (by omega) (by omega)) (fun (h122 : x3 = 0) => ?_) (fun (h122 : ¬ (x3 = 0)) => ?_)
        · skip
          refine T_ld 114 (.int (i32 32)) rfl (fun _ => rfl) ?_
          refine T_callx 117 81 [.ref 6, .int (i32 1), .int (i32 32)] [.ref (tbr t)] rfl (fun _ => rfl) rfl rfl (c_tx_within w (mO m [] []) c N D (by omega) hT 1 32 ⟨by decide, by decide⟩ ⟨by decide, by decide⟩ (show 0 ≤ (1 : Int) ∧ (1 : Int) ≤ (32 : Int) ∧ (32 : Int) ≤ 64 by omega)) (fun rr123 k124 => ?_)
          rcases k124 with ⟨m125, wn, Tm125, Fm125, g126, h127, h128, rfl⟩ | ⟨xx131, m129, hx130, Tm129, Fm129, rfl⟩
          rotate_left
          · skip
            refine Or.inr ⟨_, _, _, _, rfl, ?_⟩
            exact Or.inr ⟨xx131, (mO m129 [] []), (hx130), Tm129, (fr_m (fr_s Fm129 (fr_m fr_0 rfl rfl) rfl rfl) rfl rfl), rfl⟩
          refine Or.inl ⟨_, _, _, _, rfl, ?_⟩
          refine K_nb (st' := [.int (i32 wn), .ref (tbr t)]) rfl ?_
          obtain ⟨g126a, g126b⟩ := g126
          have g132 : (-1) ≤ m125.1 206 ∧ m125.1 206 ≤ 65535 := Tm125.1 206
          have g133 : 0 ≤ m125.1 207 ∧ m125.1 207 ≤ 4001 := Tm125.1 207
          have g134 : (-9223372036854775808) ≤ m125.1 208 ∧ m125.1 208 ≤ 9223372036854775807 := Tm125.1 208
          replace h127 : (1 : Int) ≤ wn ∧ wn ≤ (32 : Int) := h127
          replace h128 : (m.1 213) = 0 := h128
          have G135 : ∀ j, 0 ≤ (upI (m.2 75) t wn) j ∧ (upI (m.2 75) t wn) j ≤ 32 := upI_rg (hT.2.1 75) ⟨by omega, by omega⟩
          refine K_pfi (a' := [(75, upI (m.2 75) t wn)]) 120 75 (m.2 75) rfl rfl rfl (by omega) (by omega) (show (m125.2 75) = (m.2 75) from (fr2 Fm125 75 rfl)) rfl rfl ?_
          refine T_ld 121 (.int (i32 x3)) rfl (fun _ => rfl) ?_
          refine T_if 171 124 rfl rfl rfl (r32 (by omega) (by omega)) (fun (h136 : x3 = 0) => ?_) (fun (h136 : ¬ (x3 = 0)) => by exfalso; omega)
          refine T_ld 172 (.ref 178) rfl (fun _ => rfl) ?_
          refine K_gf 175 (.ref 6) rfl rfl kd_178 rfl rfl rfl ?_
          refine T_ld 177 (.int (i32 59)) rfl (fun _ => rfl) ?_
          refine T_callx 180 78 [.ref 6, .int (i32 59)] [] rfl (fun _ => rfl) rfl rfl (c_tx_expect w (mO m125 [] [(75, upI (m.2 75) t wn)]) c N D (by omega) (KTy_mO Tm125 rfl rfl trivial ⟨G135, trivial⟩) 59 ⟨by decide, by decide⟩) (fun rr137 k138 => ?_)
          rcases k138 with ⟨m139, Tm139, Fm139, h140, h141, rfl⟩ | ⟨xx144, m142, hx143, Tm142, Fm142, rfl⟩
          rotate_left
          · skip
            refine Or.inr ⟨_, _, _, _, rfl, ?_⟩
            exact Or.inr ⟨xx144, (mO m142 [] []), (hx143), Tm142, (fr_m (fr_s Fm142 (fr_m (fr_s Fm125 (fr_m fr_0 rfl rfl) rfl rfl) rfl rfl) rfl rfl) rfl rfl), rfl⟩
          refine Or.inl ⟨_, _, _, _, rfl, ?_⟩
          refine K_nb (st' := []) rfl ?_
          have g145 : (-1) ≤ m139.1 206 ∧ m139.1 206 ≤ 65535 := Tm139.1 206
          have g146 : 0 ≤ m139.1 207 ∧ m139.1 207 ≤ 4001 := Tm139.1 207
          have g147 : (-9223372036854775808) ≤ m139.1 208 ∧ m139.1 208 ≤ 9223372036854775807 := Tm139.1 208
          replace h140 : (m125.1 206) = (59 : Int) := h140
          replace h141 : (m125.1 213) = 0 := h141
          rewrite [(show (m125.1 213) = (m.1 213) from (fr1 Fm125 213 rfl))] at h141
          refine T_ret rfl (fun _ => rfl) ?_
          exact Or.inl ⟨(mO m139 [] []), Tm139, (fr_m (fr_s Fm139 (fr_m (fr_s Fm125 (fr_m fr_0 rfl rfl) rfl rfl) rfl rfl) rfl rfl) rfl rfl), rfl⟩
        · skip
          refine T_ld 109 (.int (i32 16)) rfl (fun _ => rfl) ?_
          refine T_goto 114 rfl (fun _ => rfl) ?_
          refine T_callx 117 81 [.ref 6, .int (i32 1), .int (i32 16)] [.ref (tbr t)] rfl (fun _ => rfl) rfl rfl (c_tx_within w (mO m [] []) c N D (by omega) hT 1 16 ⟨by decide, by decide⟩ ⟨by decide, by decide⟩ (show 0 ≤ (1 : Int) ∧ (1 : Int) ≤ (16 : Int) ∧ (16 : Int) ≤ 64 by omega)) (fun rr148 k149 => ?_)
          rcases k149 with ⟨m150, wn, Tm150, Fm150, g151, h152, h153, rfl⟩ | ⟨xx156, m154, hx155, Tm154, Fm154, rfl⟩
          rotate_left
          · skip
            refine Or.inr ⟨_, _, _, _, rfl, ?_⟩
            exact Or.inr ⟨xx156, (mO m154 [] []), (hx155), Tm154, (fr_m (fr_s Fm154 (fr_m fr_0 rfl rfl) rfl rfl) rfl rfl), rfl⟩
          refine Or.inl ⟨_, _, _, _, rfl, ?_⟩
          refine K_nb (st' := [.int (i32 wn), .ref (tbr t)]) rfl ?_
          obtain ⟨g151a, g151b⟩ := g151
          have g157 : (-1) ≤ m150.1 206 ∧ m150.1 206 ≤ 65535 := Tm150.1 206
          have g158 : 0 ≤ m150.1 207 ∧ m150.1 207 ≤ 4001 := Tm150.1 207
          have g159 : (-9223372036854775808) ≤ m150.1 208 ∧ m150.1 208 ≤ 9223372036854775807 := Tm150.1 208
          replace h152 : (1 : Int) ≤ wn ∧ wn ≤ (16 : Int) := h152
          replace h153 : (m.1 213) = 0 := h153
          have G160 : ∀ j, 0 ≤ (upI (m.2 75) t wn) j ∧ (upI (m.2 75) t wn) j ≤ 32 := upI_rg (hT.2.1 75) ⟨by omega, by omega⟩
          refine K_pfi (a' := [(75, upI (m.2 75) t wn)]) 120 75 (m.2 75) rfl rfl rfl (by omega) (by omega) (show (m150.2 75) = (m.2 75) from (fr2 Fm150 75 rfl)) rfl rfl ?_
          refine T_ld 121 (.int (i32 x3)) rfl (fun _ => rfl) ?_
          refine T_if 171 124 rfl rfl rfl (r32 (by omega) (by omega)) (fun (h161 : x3 = 0) => by exfalso; omega) (fun (h161 : ¬ (x3 = 0)) => ?_)
          refine T_ld 125 (.ref 178) rfl (fun _ => rfl) ?_
          refine K_gf 128 (.ref 6) rfl rfl kd_178 rfl rfl rfl ?_
          refine T_ld 131 (.int (i32 317)) rfl (fun _ => rfl) ?_
          refine T_callx 134 78 [.ref 6, .int (i32 317)] [] rfl (fun _ => rfl) rfl rfl (c_tx_expect w (mO m150 [] [(75, upI (m.2 75) t wn)]) c N D (by omega) (KTy_mO Tm150 rfl rfl trivial ⟨G160, trivial⟩) 317 ⟨by decide, by decide⟩) (fun rr162 k163 => ?_)
          rcases k163 with ⟨m164, Tm164, Fm164, h165, h166, rfl⟩ | ⟨xx169, m167, hx168, Tm167, Fm167, rfl⟩
          rotate_left
          · skip
            refine Or.inr ⟨_, _, _, _, rfl, ?_⟩
            exact Or.inr ⟨xx169, (mO m167 [] []), (hx168), Tm167, (fr_m (fr_s Fm167 (fr_m (fr_s Fm150 (fr_m fr_0 rfl rfl) rfl rfl) rfl rfl) rfl rfl) rfl rfl), rfl⟩
          refine Or.inl ⟨_, _, _, _, rfl, ?_⟩
          refine K_nb (st' := []) rfl ?_
          have g170 : (-1) ≤ m164.1 206 ∧ m164.1 206 ≤ 65535 := Tm164.1 206
          have g171 : 0 ≤ m164.1 207 ∧ m164.1 207 ≤ 4001 := Tm164.1 207
          have g172 : (-9223372036854775808) ≤ m164.1 208 ∧ m164.1 208 ≤ 9223372036854775807 := Tm164.1 208
          replace h165 : (m150.1 206) = (317 : Int) := h165
          replace h166 : (m150.1 213) = 0 := h166
          rewrite [(show (m150.1 213) = (m.1 213) from (fr1 Fm150 213 rfl))] at h166
          refine T_ld 135 (.ref (tbr t)) rfl (fun _ => rfl) ?_
          refine T_ld 136 (.ref 178) rfl (fun _ => rfl) ?_
          refine K_gf 139 (.ref 6) rfl rfl kd_178 rfl rfl rfl ?_
          refine T_ld 140 (.int (i32 1)) rfl (fun _ => rfl) ?_
          refine T_ld 141 (.int (i32 4)) rfl (fun _ => rfl) ?_
          refine T_callx 144 81 [.ref 6, .int (i32 1), .int (i32 4)] [.ref (tbr t)] rfl (fun _ => rfl) rfl rfl (c_tx_within w (mO m164 [] []) c N D (by omega) Tm164 1 4 ⟨by decide, by decide⟩ ⟨by decide, by decide⟩ (show 0 ≤ (1 : Int) ∧ (1 : Int) ≤ (4 : Int) ∧ (4 : Int) ≤ 64 by omega)) (fun rr173 k174 => ?_)
          rcases k174 with ⟨m175, wn176, Tm175, Fm175, g177, h178, h179, rfl⟩ | ⟨xx182, m180, hx181, Tm180, Fm180, rfl⟩
          rotate_left
          · skip
            refine Or.inr ⟨_, _, _, _, rfl, ?_⟩
            exact Or.inr ⟨xx182, (mO m180 [] []), (hx181), Tm180, (fr_m (fr_s Fm180 (fr_m (fr_s Fm164 (fr_m (fr_s Fm150 (fr_m fr_0 rfl rfl) rfl rfl) rfl rfl) rfl rfl) rfl rfl) rfl rfl) rfl rfl), rfl⟩
          refine Or.inl ⟨_, _, _, _, rfl, ?_⟩
          refine K_nb (st' := [.int (i32 wn176), .ref (tbr t)]) rfl ?_
          obtain ⟨g177a, g177b⟩ := g177
          have g183 : (-1) ≤ m175.1 206 ∧ m175.1 206 ≤ 65535 := Tm175.1 206
          have g184 : 0 ≤ m175.1 207 ∧ m175.1 207 ≤ 4001 := Tm175.1 207
          have g185 : (-9223372036854775808) ≤ m175.1 208 ∧ m175.1 208 ≤ 9223372036854775807 := Tm175.1 208
          replace h178 : (1 : Int) ≤ wn176 ∧ wn176 ≤ (4 : Int) := h178
          replace h179 : (m164.1 213) = 0 := h179
          rewrite [(show (m164.1 213) = (m.1 213) from ((fr1 Fm164 213 rfl).trans (fr1 Fm150 213 rfl)))] at h179
          have G186 : ∀ j, 0 ≤ (upI (m.2 76) t wn176) j ∧ (upI (m.2 76) t wn176) j ≤ 4 := upI_rg (hT.2.1 76) ⟨by omega, by omega⟩
          refine K_pfi (a' := [(76, upI (m.2 76) t wn176)]) 147 76 (m.2 76) rfl rfl rfl (by omega) (by omega) (show (m175.2 76) = (m.2 76) from ((fr2 Fm175 76 rfl).trans ((fr2 Fm164 76 rfl).trans (fr2 Fm150 76 rfl)))) rfl rfl ?_
          refine T_ld 148 (.ref 178) rfl (fun _ => rfl) ?_
          refine K_gf 151 (.ref 6) rfl rfl kd_178 rfl rfl rfl ?_
          refine T_ld 154 (.int (i32 318)) rfl (fun _ => rfl) ?_
          refine T_callx 157 78 [.ref 6, .int (i32 318)] [] rfl (fun _ => rfl) rfl rfl (c_tx_expect w (mO m175 [] [(76, upI (m.2 76) t wn176)]) c N D (by omega) (KTy_mO Tm175 rfl rfl trivial ⟨G186, trivial⟩) 318 ⟨by decide, by decide⟩) (fun rr187 k188 => ?_)
          rcases k188 with ⟨m189, Tm189, Fm189, h190, h191, rfl⟩ | ⟨xx194, m192, hx193, Tm192, Fm192, rfl⟩
          rotate_left
          · skip
            refine Or.inr ⟨_, _, _, _, rfl, ?_⟩
            exact Or.inr ⟨xx194, (mO m192 [] []), (hx193), Tm192, (fr_m (fr_s Fm192 (fr_m (fr_s Fm175 (fr_m (fr_s Fm164 (fr_m (fr_s Fm150 (fr_m fr_0 rfl rfl) rfl rfl) rfl rfl) rfl rfl) rfl rfl) rfl rfl) rfl rfl) rfl rfl) rfl rfl), rfl⟩
          refine Or.inl ⟨_, _, _, _, rfl, ?_⟩
          refine K_nb (st' := []) rfl ?_
          have g195 : (-1) ≤ m189.1 206 ∧ m189.1 206 ≤ 65535 := Tm189.1 206
          have g196 : 0 ≤ m189.1 207 ∧ m189.1 207 ≤ 4001 := Tm189.1 207
          have g197 : (-9223372036854775808) ≤ m189.1 208 ∧ m189.1 208 ≤ 9223372036854775807 := Tm189.1 208
          replace h190 : (m175.1 206) = (318 : Int) := h190
          replace h191 : (m175.1 213) = 0 := h191
          rewrite [(show (m175.1 213) = (m.1 213) from ((fr1 Fm175 213 rfl).trans ((fr1 Fm164 213 rfl).trans (fr1 Fm150 213 rfl))))] at h191
          refine T_ld 158 (.ref (tbr t)) rfl (fun _ => rfl) ?_
          refine T_ld 159 (.ref 178) rfl (fun _ => rfl) ?_
          refine K_gf 162 (.ref 6) rfl rfl kd_178 rfl rfl rfl ?_
          refine T_ld 163 (.int (i32 0)) rfl (fun _ => rfl) ?_
          refine T_ld 165 (.int (i32 8)) rfl (fun _ => rfl) ?_
          refine T_callx 168 81 [.ref 6, .int (i32 0), .int (i32 8)] [.ref (tbr t)] rfl (fun _ => rfl) rfl rfl (c_tx_within w (mO m189 [] []) c N D (by omega) Tm189 0 8 ⟨by decide, by decide⟩ ⟨by decide, by decide⟩ (show 0 ≤ (0 : Int) ∧ (0 : Int) ≤ (8 : Int) ∧ (8 : Int) ≤ 64 by omega)) (fun rr198 k199 => ?_)
          rcases k199 with ⟨m200, wn201, Tm200, Fm200, g202, h203, h204, rfl⟩ | ⟨xx207, m205, hx206, Tm205, Fm205, rfl⟩
          rotate_left
          · skip
            refine Or.inr ⟨_, _, _, _, rfl, ?_⟩
            exact Or.inr ⟨xx207, (mO m205 [] []), (hx206), Tm205, (fr_m (fr_s Fm205 (fr_m (fr_s Fm189 (fr_m (fr_s Fm175 (fr_m (fr_s Fm164 (fr_m (fr_s Fm150 (fr_m fr_0 rfl rfl) rfl rfl) rfl rfl) rfl rfl) rfl rfl) rfl rfl) rfl rfl) rfl rfl) rfl rfl) rfl rfl) rfl rfl), rfl⟩
          refine Or.inl ⟨_, _, _, _, rfl, ?_⟩
          refine K_nb (st' := [.int (i32 wn201), .ref (tbr t)]) rfl ?_
          obtain ⟨g202a, g202b⟩ := g202
          have g208 : (-1) ≤ m200.1 206 ∧ m200.1 206 ≤ 65535 := Tm200.1 206
          have g209 : 0 ≤ m200.1 207 ∧ m200.1 207 ≤ 4001 := Tm200.1 207
          have g210 : (-9223372036854775808) ≤ m200.1 208 ∧ m200.1 208 ≤ 9223372036854775807 := Tm200.1 208
          replace h203 : (0 : Int) ≤ wn201 ∧ wn201 ≤ (8 : Int) := h203
          replace h204 : (m189.1 213) = 0 := h204
          rewrite [(show (m189.1 213) = (m.1 213) from ((fr1 Fm189 213 rfl).trans ((fr1 Fm175 213 rfl).trans ((fr1 Fm164 213 rfl).trans (fr1 Fm150 213 rfl)))))] at h204
          have G211 : ∀ j, 0 ≤ (upI (m.2 77) t wn201) j ∧ (upI (m.2 77) t wn201) j ≤ 8 := upI_rg (hT.2.1 77) ⟨by omega, by omega⟩
          refine K_pfi (a' := [(77, upI (m.2 77) t wn201)]) 171 77 (m.2 77) rfl rfl rfl (by omega) (by omega) (show (m200.2 77) = (m.2 77) from ((fr2 Fm200 77 rfl).trans ((fr2 Fm189 77 rfl).trans ((fr2 Fm175 77 rfl).trans ((fr2 Fm164 77 rfl).trans (fr2 Fm150 77 rfl)))))) rfl rfl ?_
          refine T_ld 172 (.ref 178) rfl (fun _ => rfl) ?_
          refine K_gf 175 (.ref 6) rfl rfl kd_178 rfl rfl rfl ?_
          refine T_ld 177 (.int (i32 59)) rfl (fun _ => rfl) ?_
          refine T_callx 180 78 [.ref 6, .int (i32 59)] [] rfl (fun _ => rfl) rfl rfl (c_tx_expect w (mO m200 [] [(77, upI (m.2 77) t wn201)]) c N D (by omega) (KTy_mO Tm200 rfl rfl trivial ⟨G211, trivial⟩) 59 ⟨by decide, by decide⟩) (fun rr212 k213 => ?_)
          rcases k213 with ⟨m214, Tm214, Fm214, h215, h216, rfl⟩ | ⟨xx219, m217, hx218, Tm217, Fm217, rfl⟩
          rotate_left
          · skip
            refine Or.inr ⟨_, _, _, _, rfl, ?_⟩
            exact Or.inr ⟨xx219, (mO m217 [] []), (hx218), Tm217, (fr_m (fr_s Fm217 (fr_m (fr_s Fm200 (fr_m (fr_s Fm189 (fr_m (fr_s Fm175 (fr_m (fr_s Fm164 (fr_m (fr_s Fm150 (fr_m fr_0 rfl rfl) rfl rfl) rfl rfl) rfl rfl) rfl rfl) rfl rfl) rfl rfl) rfl rfl) rfl rfl) rfl rfl) rfl rfl) rfl rfl) rfl rfl), rfl⟩
          refine Or.inl ⟨_, _, _, _, rfl, ?_⟩
          refine K_nb (st' := []) rfl ?_
          have g220 : (-1) ≤ m214.1 206 ∧ m214.1 206 ≤ 65535 := Tm214.1 206
          have g221 : 0 ≤ m214.1 207 ∧ m214.1 207 ≤ 4001 := Tm214.1 207
          have g222 : (-9223372036854775808) ≤ m214.1 208 ∧ m214.1 208 ≤ 9223372036854775807 := Tm214.1 208
          replace h215 : (m200.1 206) = (59 : Int) := h215
          replace h216 : (m200.1 213) = 0 := h216
          rewrite [(show (m200.1 213) = (m.1 213) from ((fr1 Fm200 213 rfl).trans ((fr1 Fm189 213 rfl).trans ((fr1 Fm175 213 rfl).trans ((fr1 Fm164 213 rfl).trans (fr1 Fm150 213 rfl))))))] at h216
          refine T_ret rfl (fun _ => rfl) ?_
          exact Or.inl ⟨(mO m214 [] []), Tm214, (fr_m (fr_s Fm214 (fr_m (fr_s Fm200 (fr_m (fr_s Fm189 (fr_m (fr_s Fm175 (fr_m (fr_s Fm164 (fr_m (fr_s Fm150 (fr_m fr_0 rfl rfl) rfl rfl) rfl rfl) rfl rfl) rfl rfl) rfl rfl) rfl rfl) rfl rfl) rfl rfl) rfl rfl) rfl rfl) rfl rfl) rfl rfl), rfl⟩
      · skip
        have hl223 : z115 = 0 := by omega
        refine T_ld 68 (.int (i32 1)) rfl (fun _ => rfl) ?_
        refine T_goto 72 rfl (fun _ => rfl) ?_
        refine T_sto 74 [(5, .int (i32 1)), (4, .int (i32 0)), (3, .int (i32 (m.1 207))), (2, .int (i32 x3)), (0, .ref 178), (1, .ref (tbr t))] rfl (fun _ => rfl) ?_
        refine T_ld 76 (.int (i32 0)) rfl (fun _ => rfl) ?_
        refine T_if 97 79 rfl rfl rfl ⟨by decide, by decide⟩ (fun _ => ?_) (fun h224 => absurd (show (0 : Int) = 0 by decide) h224)
        refine T_ld 98 (.ref (tbr t)) rfl (fun _ => rfl) ?_
        refine T_ld 99 (.ref 178) rfl (fun _ => rfl) ?_
        refine K_gf 102 (.ref 6) rfl rfl kd_178 rfl rfl rfl ?_
        refine T_ld 103 (.int (i32 1)) rfl (fun _ => rfl) ?_
        refine T_ld 104 (.int (i32 x3)) rfl (fun _ => rfl) ?_
        refine T_if 112 107 rfl rfl rfl (r32 (by omega) (by omega)) (fun (h225 : x3 = 0) => ?_) (fun (h225 : ¬ (x3 = 0)) => ?_)
        · skip
          refine T_ld 114 (.int (i32 32)) rfl (fun _ => rfl) ?_
          refine T_callx 117 81 [.ref 6, .int (i32 1), .int (i32 32)] [.ref (tbr t)] rfl (fun _ => rfl) rfl rfl (c_tx_within w (mO m [] []) c N D (by omega) hT 1 32 ⟨by decide, by decide⟩ ⟨by decide, by decide⟩ (show 0 ≤ (1 : Int) ∧ (1 : Int) ≤ (32 : Int) ∧ (32 : Int) ≤ 64 by omega)) (fun rr226 k227 => ?_)
          rcases k227 with ⟨m228, wn, Tm228, Fm228, g229, h230, h231, rfl⟩ | ⟨xx234, m232, hx233, Tm232, Fm232, rfl⟩
          rotate_left
          · skip
            refine Or.inr ⟨_, _, _, _, rfl, ?_⟩
            exact Or.inr ⟨xx234, (mO m232 [] []), (hx233), Tm232, (fr_m (fr_s Fm232 (fr_m fr_0 rfl rfl) rfl rfl) rfl rfl), rfl⟩
          refine Or.inl ⟨_, _, _, _, rfl, ?_⟩
          refine K_nb (st' := [.int (i32 wn), .ref (tbr t)]) rfl ?_
          obtain ⟨g229a, g229b⟩ := g229
          have g235 : (-1) ≤ m228.1 206 ∧ m228.1 206 ≤ 65535 := Tm228.1 206
          have g236 : 0 ≤ m228.1 207 ∧ m228.1 207 ≤ 4001 := Tm228.1 207
          have g237 : (-9223372036854775808) ≤ m228.1 208 ∧ m228.1 208 ≤ 9223372036854775807 := Tm228.1 208
          replace h230 : (1 : Int) ≤ wn ∧ wn ≤ (32 : Int) := h230
          replace h231 : (m.1 213) = 0 := h231
          have G238 : ∀ j, 0 ≤ (upI (m.2 75) t wn) j ∧ (upI (m.2 75) t wn) j ≤ 32 := upI_rg (hT.2.1 75) ⟨by omega, by omega⟩
          refine K_pfi (a' := [(75, upI (m.2 75) t wn)]) 120 75 (m.2 75) rfl rfl rfl (by omega) (by omega) (show (m228.2 75) = (m.2 75) from (fr2 Fm228 75 rfl)) rfl rfl ?_
          refine T_ld 121 (.int (i32 x3)) rfl (fun _ => rfl) ?_
          refine T_if 171 124 rfl rfl rfl (r32 (by omega) (by omega)) (fun (h239 : x3 = 0) => ?_) (fun (h239 : ¬ (x3 = 0)) => by exfalso; omega)
          refine T_ld 172 (.ref 178) rfl (fun _ => rfl) ?_
          refine K_gf 175 (.ref 6) rfl rfl kd_178 rfl rfl rfl ?_
          refine T_ld 177 (.int (i32 59)) rfl (fun _ => rfl) ?_
          refine T_callx 180 78 [.ref 6, .int (i32 59)] [] rfl (fun _ => rfl) rfl rfl (c_tx_expect w (mO m228 [] [(75, upI (m.2 75) t wn)]) c N D (by omega) (KTy_mO Tm228 rfl rfl trivial ⟨G238, trivial⟩) 59 ⟨by decide, by decide⟩) (fun rr240 k241 => ?_)
          rcases k241 with ⟨m242, Tm242, Fm242, h243, h244, rfl⟩ | ⟨xx247, m245, hx246, Tm245, Fm245, rfl⟩
          rotate_left
          · skip
            refine Or.inr ⟨_, _, _, _, rfl, ?_⟩
            exact Or.inr ⟨xx247, (mO m245 [] []), (hx246), Tm245, (fr_m (fr_s Fm245 (fr_m (fr_s Fm228 (fr_m fr_0 rfl rfl) rfl rfl) rfl rfl) rfl rfl) rfl rfl), rfl⟩
          refine Or.inl ⟨_, _, _, _, rfl, ?_⟩
          refine K_nb (st' := []) rfl ?_
          have g248 : (-1) ≤ m242.1 206 ∧ m242.1 206 ≤ 65535 := Tm242.1 206
          have g249 : 0 ≤ m242.1 207 ∧ m242.1 207 ≤ 4001 := Tm242.1 207
          have g250 : (-9223372036854775808) ≤ m242.1 208 ∧ m242.1 208 ≤ 9223372036854775807 := Tm242.1 208
          replace h243 : (m228.1 206) = (59 : Int) := h243
          replace h244 : (m228.1 213) = 0 := h244
          rewrite [(show (m228.1 213) = (m.1 213) from (fr1 Fm228 213 rfl))] at h244
          refine T_ret rfl (fun _ => rfl) ?_
          exact Or.inl ⟨(mO m242 [] []), Tm242, (fr_m (fr_s Fm242 (fr_m (fr_s Fm228 (fr_m fr_0 rfl rfl) rfl rfl) rfl rfl) rfl rfl) rfl rfl), rfl⟩
        · skip
          refine T_ld 109 (.int (i32 16)) rfl (fun _ => rfl) ?_
          refine T_goto 114 rfl (fun _ => rfl) ?_
          refine T_callx 117 81 [.ref 6, .int (i32 1), .int (i32 16)] [.ref (tbr t)] rfl (fun _ => rfl) rfl rfl (c_tx_within w (mO m [] []) c N D (by omega) hT 1 16 ⟨by decide, by decide⟩ ⟨by decide, by decide⟩ (show 0 ≤ (1 : Int) ∧ (1 : Int) ≤ (16 : Int) ∧ (16 : Int) ≤ 64 by omega)) (fun rr251 k252 => ?_)
          rcases k252 with ⟨m253, wn, Tm253, Fm253, g254, h255, h256, rfl⟩ | ⟨xx259, m257, hx258, Tm257, Fm257, rfl⟩
          rotate_left
          · skip
            refine Or.inr ⟨_, _, _, _, rfl, ?_⟩
            exact Or.inr ⟨xx259, (mO m257 [] []), (hx258), Tm257, (fr_m (fr_s Fm257 (fr_m fr_0 rfl rfl) rfl rfl) rfl rfl), rfl⟩
          refine Or.inl ⟨_, _, _, _, rfl, ?_⟩
          refine K_nb (st' := [.int (i32 wn), .ref (tbr t)]) rfl ?_
          obtain ⟨g254a, g254b⟩ := g254
          have g260 : (-1) ≤ m253.1 206 ∧ m253.1 206 ≤ 65535 := Tm253.1 206
          have g261 : 0 ≤ m253.1 207 ∧ m253.1 207 ≤ 4001 := Tm253.1 207
          have g262 : (-9223372036854775808) ≤ m253.1 208 ∧ m253.1 208 ≤ 9223372036854775807 := Tm253.1 208
          replace h255 : (1 : Int) ≤ wn ∧ wn ≤ (16 : Int) := h255
          replace h256 : (m.1 213) = 0 := h256
          have G263 : ∀ j, 0 ≤ (upI (m.2 75) t wn) j ∧ (upI (m.2 75) t wn) j ≤ 32 := upI_rg (hT.2.1 75) ⟨by omega, by omega⟩
          refine K_pfi (a' := [(75, upI (m.2 75) t wn)]) 120 75 (m.2 75) rfl rfl rfl (by omega) (by omega) (show (m253.2 75) = (m.2 75) from (fr2 Fm253 75 rfl)) rfl rfl ?_
          refine T_ld 121 (.int (i32 x3)) rfl (fun _ => rfl) ?_
          refine T_if 171 124 rfl rfl rfl (r32 (by omega) (by omega)) (fun (h264 : x3 = 0) => by exfalso; omega) (fun (h264 : ¬ (x3 = 0)) => ?_)
          refine T_ld 125 (.ref 178) rfl (fun _ => rfl) ?_
          refine K_gf 128 (.ref 6) rfl rfl kd_178 rfl rfl rfl ?_
          refine T_ld 131 (.int (i32 317)) rfl (fun _ => rfl) ?_
          refine T_callx 134 78 [.ref 6, .int (i32 317)] [] rfl (fun _ => rfl) rfl rfl (c_tx_expect w (mO m253 [] [(75, upI (m.2 75) t wn)]) c N D (by omega) (KTy_mO Tm253 rfl rfl trivial ⟨G263, trivial⟩) 317 ⟨by decide, by decide⟩) (fun rr265 k266 => ?_)
          rcases k266 with ⟨m267, Tm267, Fm267, h268, h269, rfl⟩ | ⟨xx272, m270, hx271, Tm270, Fm270, rfl⟩
          rotate_left
          · skip
            refine Or.inr ⟨_, _, _, _, rfl, ?_⟩
            exact Or.inr ⟨xx272, (mO m270 [] []), (hx271), Tm270, (fr_m (fr_s Fm270 (fr_m (fr_s Fm253 (fr_m fr_0 rfl rfl) rfl rfl) rfl rfl) rfl rfl) rfl rfl), rfl⟩
          refine Or.inl ⟨_, _, _, _, rfl, ?_⟩
          refine K_nb (st' := []) rfl ?_
          have g273 : (-1) ≤ m267.1 206 ∧ m267.1 206 ≤ 65535 := Tm267.1 206
          have g274 : 0 ≤ m267.1 207 ∧ m267.1 207 ≤ 4001 := Tm267.1 207
          have g275 : (-9223372036854775808) ≤ m267.1 208 ∧ m267.1 208 ≤ 9223372036854775807 := Tm267.1 208
          replace h268 : (m253.1 206) = (317 : Int) := h268
          replace h269 : (m253.1 213) = 0 := h269
          rewrite [(show (m253.1 213) = (m.1 213) from (fr1 Fm253 213 rfl))] at h269
          refine T_ld 135 (.ref (tbr t)) rfl (fun _ => rfl) ?_
          refine T_ld 136 (.ref 178) rfl (fun _ => rfl) ?_
          refine K_gf 139 (.ref 6) rfl rfl kd_178 rfl rfl rfl ?_
          refine T_ld 140 (.int (i32 1)) rfl (fun _ => rfl) ?_
          refine T_ld 141 (.int (i32 4)) rfl (fun _ => rfl) ?_
          refine T_callx 144 81 [.ref 6, .int (i32 1), .int (i32 4)] [.ref (tbr t)] rfl (fun _ => rfl) rfl rfl (c_tx_within w (mO m267 [] []) c N D (by omega) Tm267 1 4 ⟨by decide, by decide⟩ ⟨by decide, by decide⟩ (show 0 ≤ (1 : Int) ∧ (1 : Int) ≤ (4 : Int) ∧ (4 : Int) ≤ 64 by omega)) (fun rr276 k277 => ?_)
          rcases k277 with ⟨m278, wn279, Tm278, Fm278, g280, h281, h282, rfl⟩ | ⟨xx285, m283, hx284, Tm283, Fm283, rfl⟩
          rotate_left
          · skip
            refine Or.inr ⟨_, _, _, _, rfl, ?_⟩
            exact Or.inr ⟨xx285, (mO m283 [] []), (hx284), Tm283, (fr_m (fr_s Fm283 (fr_m (fr_s Fm267 (fr_m (fr_s Fm253 (fr_m fr_0 rfl rfl) rfl rfl) rfl rfl) rfl rfl) rfl rfl) rfl rfl) rfl rfl), rfl⟩
          refine Or.inl ⟨_, _, _, _, rfl, ?_⟩
          refine K_nb (st' := [.int (i32 wn279), .ref (tbr t)]) rfl ?_
          obtain ⟨g280a, g280b⟩ := g280
          have g286 : (-1) ≤ m278.1 206 ∧ m278.1 206 ≤ 65535 := Tm278.1 206
          have g287 : 0 ≤ m278.1 207 ∧ m278.1 207 ≤ 4001 := Tm278.1 207
          have g288 : (-9223372036854775808) ≤ m278.1 208 ∧ m278.1 208 ≤ 9223372036854775807 := Tm278.1 208
          replace h281 : (1 : Int) ≤ wn279 ∧ wn279 ≤ (4 : Int) := h281
          replace h282 : (m267.1 213) = 0 := h282
          rewrite [(show (m267.1 213) = (m.1 213) from ((fr1 Fm267 213 rfl).trans (fr1 Fm253 213 rfl)))] at h282
          have G289 : ∀ j, 0 ≤ (upI (m.2 76) t wn279) j ∧ (upI (m.2 76) t wn279) j ≤ 4 := upI_rg (hT.2.1 76) ⟨by omega, by omega⟩
          refine K_pfi (a' := [(76, upI (m.2 76) t wn279)]) 147 76 (m.2 76) rfl rfl rfl (by omega) (by omega) (show (m278.2 76) = (m.2 76) from ((fr2 Fm278 76 rfl).trans ((fr2 Fm267 76 rfl).trans (fr2 Fm253 76 rfl)))) rfl rfl ?_
          refine T_ld 148 (.ref 178) rfl (fun _ => rfl) ?_
          refine K_gf 151 (.ref 6) rfl rfl kd_178 rfl rfl rfl ?_
          refine T_ld 154 (.int (i32 318)) rfl (fun _ => rfl) ?_
          refine T_callx 157 78 [.ref 6, .int (i32 318)] [] rfl (fun _ => rfl) rfl rfl (c_tx_expect w (mO m278 [] [(76, upI (m.2 76) t wn279)]) c N D (by omega) (KTy_mO Tm278 rfl rfl trivial ⟨G289, trivial⟩) 318 ⟨by decide, by decide⟩) (fun rr290 k291 => ?_)
          rcases k291 with ⟨m292, Tm292, Fm292, h293, h294, rfl⟩ | ⟨xx297, m295, hx296, Tm295, Fm295, rfl⟩
          rotate_left
          · skip
            refine Or.inr ⟨_, _, _, _, rfl, ?_⟩
            exact Or.inr ⟨xx297, (mO m295 [] []), (hx296), Tm295, (fr_m (fr_s Fm295 (fr_m (fr_s Fm278 (fr_m (fr_s Fm267 (fr_m (fr_s Fm253 (fr_m fr_0 rfl rfl) rfl rfl) rfl rfl) rfl rfl) rfl rfl) rfl rfl) rfl rfl) rfl rfl) rfl rfl), rfl⟩
          refine Or.inl ⟨_, _, _, _, rfl, ?_⟩
          refine K_nb (st' := []) rfl ?_
          have g298 : (-1) ≤ m292.1 206 ∧ m292.1 206 ≤ 65535 := Tm292.1 206
          have g299 : 0 ≤ m292.1 207 ∧ m292.1 207 ≤ 4001 := Tm292.1 207
          have g300 : (-9223372036854775808) ≤ m292.1 208 ∧ m292.1 208 ≤ 9223372036854775807 := Tm292.1 208
          replace h293 : (m278.1 206) = (318 : Int) := h293
          replace h294 : (m278.1 213) = 0 := h294
          rewrite [(show (m278.1 213) = (m.1 213) from ((fr1 Fm278 213 rfl).trans ((fr1 Fm267 213 rfl).trans (fr1 Fm253 213 rfl))))] at h294
          refine T_ld 158 (.ref (tbr t)) rfl (fun _ => rfl) ?_
          refine T_ld 159 (.ref 178) rfl (fun _ => rfl) ?_
          refine K_gf 162 (.ref 6) rfl rfl kd_178 rfl rfl rfl ?_
          refine T_ld 163 (.int (i32 0)) rfl (fun _ => rfl) ?_
          refine T_ld 165 (.int (i32 8)) rfl (fun _ => rfl) ?_
          refine T_callx 168 81 [.ref 6, .int (i32 0), .int (i32 8)] [.ref (tbr t)] rfl (fun _ => rfl) rfl rfl (c_tx_within w (mO m292 [] []) c N D (by omega) Tm292 0 8 ⟨by decide, by decide⟩ ⟨by decide, by decide⟩ (show 0 ≤ (0 : Int) ∧ (0 : Int) ≤ (8 : Int) ∧ (8 : Int) ≤ 64 by omega)) (fun rr301 k302 => ?_)
          rcases k302 with ⟨m303, wn304, Tm303, Fm303, g305, h306, h307, rfl⟩ | ⟨xx310, m308, hx309, Tm308, Fm308, rfl⟩
          rotate_left
          · skip
            refine Or.inr ⟨_, _, _, _, rfl, ?_⟩
            exact Or.inr ⟨xx310, (mO m308 [] []), (hx309), Tm308, (fr_m (fr_s Fm308 (fr_m (fr_s Fm292 (fr_m (fr_s Fm278 (fr_m (fr_s Fm267 (fr_m (fr_s Fm253 (fr_m fr_0 rfl rfl) rfl rfl) rfl rfl) rfl rfl) rfl rfl) rfl rfl) rfl rfl) rfl rfl) rfl rfl) rfl rfl) rfl rfl), rfl⟩
          refine Or.inl ⟨_, _, _, _, rfl, ?_⟩
          refine K_nb (st' := [.int (i32 wn304), .ref (tbr t)]) rfl ?_
          obtain ⟨g305a, g305b⟩ := g305
          have g311 : (-1) ≤ m303.1 206 ∧ m303.1 206 ≤ 65535 := Tm303.1 206
          have g312 : 0 ≤ m303.1 207 ∧ m303.1 207 ≤ 4001 := Tm303.1 207
          have g313 : (-9223372036854775808) ≤ m303.1 208 ∧ m303.1 208 ≤ 9223372036854775807 := Tm303.1 208
          replace h306 : (0 : Int) ≤ wn304 ∧ wn304 ≤ (8 : Int) := h306
          replace h307 : (m292.1 213) = 0 := h307
          rewrite [(show (m292.1 213) = (m.1 213) from ((fr1 Fm292 213 rfl).trans ((fr1 Fm278 213 rfl).trans ((fr1 Fm267 213 rfl).trans (fr1 Fm253 213 rfl)))))] at h307
          have G314 : ∀ j, 0 ≤ (upI (m.2 77) t wn304) j ∧ (upI (m.2 77) t wn304) j ≤ 8 := upI_rg (hT.2.1 77) ⟨by omega, by omega⟩
          refine K_pfi (a' := [(77, upI (m.2 77) t wn304)]) 171 77 (m.2 77) rfl rfl rfl (by omega) (by omega) (show (m303.2 77) = (m.2 77) from ((fr2 Fm303 77 rfl).trans ((fr2 Fm292 77 rfl).trans ((fr2 Fm278 77 rfl).trans ((fr2 Fm267 77 rfl).trans (fr2 Fm253 77 rfl)))))) rfl rfl ?_
          refine T_ld 172 (.ref 178) rfl (fun _ => rfl) ?_
          refine K_gf 175 (.ref 6) rfl rfl kd_178 rfl rfl rfl ?_
          refine T_ld 177 (.int (i32 59)) rfl (fun _ => rfl) ?_
          refine T_callx 180 78 [.ref 6, .int (i32 59)] [] rfl (fun _ => rfl) rfl rfl (c_tx_expect w (mO m303 [] [(77, upI (m.2 77) t wn304)]) c N D (by omega) (KTy_mO Tm303 rfl rfl trivial ⟨G314, trivial⟩) 59 ⟨by decide, by decide⟩) (fun rr315 k316 => ?_)
          rcases k316 with ⟨m317, Tm317, Fm317, h318, h319, rfl⟩ | ⟨xx322, m320, hx321, Tm320, Fm320, rfl⟩
          rotate_left
          · skip
            refine Or.inr ⟨_, _, _, _, rfl, ?_⟩
            exact Or.inr ⟨xx322, (mO m320 [] []), (hx321), Tm320, (fr_m (fr_s Fm320 (fr_m (fr_s Fm303 (fr_m (fr_s Fm292 (fr_m (fr_s Fm278 (fr_m (fr_s Fm267 (fr_m (fr_s Fm253 (fr_m fr_0 rfl rfl) rfl rfl) rfl rfl) rfl rfl) rfl rfl) rfl rfl) rfl rfl) rfl rfl) rfl rfl) rfl rfl) rfl rfl) rfl rfl) rfl rfl), rfl⟩
          refine Or.inl ⟨_, _, _, _, rfl, ?_⟩
          refine K_nb (st' := []) rfl ?_
          have g323 : (-1) ≤ m317.1 206 ∧ m317.1 206 ≤ 65535 := Tm317.1 206
          have g324 : 0 ≤ m317.1 207 ∧ m317.1 207 ≤ 4001 := Tm317.1 207
          have g325 : (-9223372036854775808) ≤ m317.1 208 ∧ m317.1 208 ≤ 9223372036854775807 := Tm317.1 208
          replace h318 : (m303.1 206) = (59 : Int) := h318
          replace h319 : (m303.1 213) = 0 := h319
          rewrite [(show (m303.1 213) = (m.1 213) from ((fr1 Fm303 213 rfl).trans ((fr1 Fm292 213 rfl).trans ((fr1 Fm278 213 rfl).trans ((fr1 Fm267 213 rfl).trans (fr1 Fm253 213 rfl))))))] at h319
          refine T_ret rfl (fun _ => rfl) ?_
          exact Or.inl ⟨(mO m317 [] []), Tm317, (fr_m (fr_s Fm317 (fr_m (fr_s Fm303 (fr_m (fr_s Fm292 (fr_m (fr_s Fm278 (fr_m (fr_s Fm267 (fr_m (fr_s Fm253 (fr_m fr_0 rfl rfl) rfl rfl) rfl rfl) rfl rfl) rfl rfl) rfl rfl) rfl rfl) rfl rfl) rfl rfl) rfl rfl) rfl rfl) rfl rfl) rfl rfl), rfl⟩
  · skip
    refine T_ld 27 (.int (i32 1)) rfl (fun _ => rfl) ?_
    refine T_goto 31 rfl (fun _ => rfl) ?_
    refine T_sto 33 [(4, .int (i32 1)), (3, .int (i32 (m.1 207))), (2, .int (i32 x3)), (0, .ref 178), (1, .ref (tbr t))] rfl (fun _ => rfl) ?_
    refine T_ld 34 (.ref 178) rfl (fun _ => rfl) ?_
    refine K_gf 37 (.ref 6) rfl rfl kd_178 rfl rfl rfl ?_
    refine K_gf 40 (.long (i64 (m.1 208))) rfl rfl kd_6 rfl rfl rfl ?_
    refine T_ld 41 (.long (i64 0)) rfl (fun _ => rfl) ?_
    refine T_lcmp 42 rfl rfl (r64 (by omega) (by omega)) ⟨by decide, by decide⟩ (fun z326 h327 => ?_)
    obtain ⟨h327a, h327b, h327c, h327d, h327e⟩ := h327
    refine T_if 71 45 rfl rfl rfl (r32 (by omega) (by omega)) (fun (h328 : z326 ≤ 0) => ?_) (fun (h328 : ¬ (z326 ≤ 0)) => ?_)
    · skip
      have hl329 : (m.1 208) ≤ 0 := by omega
      refine T_ld 72 (.int (i32 0)) rfl (fun _ => rfl) ?_
      refine T_sto 74 [(5, .int (i32 0)), (4, .int (i32 1)), (3, .int (i32 (m.1 207))), (2, .int (i32 x3)), (0, .ref 178), (1, .ref (tbr t))] rfl (fun _ => rfl) ?_
      refine T_ld 76 (.int (i32 1)) rfl (fun _ => rfl) ?_
      refine T_if 97 79 rfl rfl rfl ⟨by decide, by decide⟩ (fun h330 => absurd (show (1 : Int) = 0 from h330) (by decide)) (fun _ => ?_)
      refine T_ld 80 (.int (i32 x3)) rfl (fun _ => rfl) ?_
      refine T_if 97 83 rfl rfl rfl (r32 (by omega) (by omega)) (fun (h331 : x3 = 0) => ?_) (fun (h331 : ¬ (x3 = 0)) => ?_)
      · skip
        refine T_ld 98 (.ref (tbr t)) rfl (fun _ => rfl) ?_
        refine T_ld 99 (.ref 178) rfl (fun _ => rfl) ?_
        refine K_gf 102 (.ref 6) rfl rfl kd_178 rfl rfl rfl ?_
        refine T_ld 103 (.int (i32 1)) rfl (fun _ => rfl) ?_
        refine T_ld 104 (.int (i32 x3)) rfl (fun _ => rfl) ?_
        refine T_if 112 107 rfl rfl rfl (r32 (by omega) (by omega)) (fun (h332 : x3 = 0) => ?_) (fun (h332 : ¬ (x3 = 0)) => by exfalso; omega)
        refine T_ld 114 (.int (i32 32)) rfl (fun _ => rfl) ?_
        refine T_callx 117 81 [.ref 6, .int (i32 1), .int (i32 32)] [.ref (tbr t)] rfl (fun _ => rfl) rfl rfl (c_tx_within w (mO m [] []) c N D (by omega) hT 1 32 ⟨by decide, by decide⟩ ⟨by decide, by decide⟩ (show 0 ≤ (1 : Int) ∧ (1 : Int) ≤ (32 : Int) ∧ (32 : Int) ≤ 64 by omega)) (fun rr333 k334 => ?_)
        rcases k334 with ⟨m335, wn, Tm335, Fm335, g336, h337, h338, rfl⟩ | ⟨xx341, m339, hx340, Tm339, Fm339, rfl⟩
        rotate_left
        · skip
          refine Or.inr ⟨_, _, _, _, rfl, ?_⟩
          exact Or.inr ⟨xx341, (mO m339 [] []), (hx340), Tm339, (fr_m (fr_s Fm339 (fr_m fr_0 rfl rfl) rfl rfl) rfl rfl), rfl⟩
        refine Or.inl ⟨_, _, _, _, rfl, ?_⟩
        refine K_nb (st' := [.int (i32 wn), .ref (tbr t)]) rfl ?_
        obtain ⟨g336a, g336b⟩ := g336
        have g342 : (-1) ≤ m335.1 206 ∧ m335.1 206 ≤ 65535 := Tm335.1 206
        have g343 : 0 ≤ m335.1 207 ∧ m335.1 207 ≤ 4001 := Tm335.1 207
        have g344 : (-9223372036854775808) ≤ m335.1 208 ∧ m335.1 208 ≤ 9223372036854775807 := Tm335.1 208
        replace h337 : (1 : Int) ≤ wn ∧ wn ≤ (32 : Int) := h337
        replace h338 : (m.1 213) = 0 := h338
        have G345 : ∀ j, 0 ≤ (upI (m.2 75) t wn) j ∧ (upI (m.2 75) t wn) j ≤ 32 := upI_rg (hT.2.1 75) ⟨by omega, by omega⟩
        refine K_pfi (a' := [(75, upI (m.2 75) t wn)]) 120 75 (m.2 75) rfl rfl rfl (by omega) (by omega) (show (m335.2 75) = (m.2 75) from (fr2 Fm335 75 rfl)) rfl rfl ?_
        refine T_ld 121 (.int (i32 x3)) rfl (fun _ => rfl) ?_
        refine T_if 171 124 rfl rfl rfl (r32 (by omega) (by omega)) (fun (h346 : x3 = 0) => ?_) (fun (h346 : ¬ (x3 = 0)) => by exfalso; omega)
        refine T_ld 172 (.ref 178) rfl (fun _ => rfl) ?_
        refine K_gf 175 (.ref 6) rfl rfl kd_178 rfl rfl rfl ?_
        refine T_ld 177 (.int (i32 59)) rfl (fun _ => rfl) ?_
        refine T_callx 180 78 [.ref 6, .int (i32 59)] [] rfl (fun _ => rfl) rfl rfl (c_tx_expect w (mO m335 [] [(75, upI (m.2 75) t wn)]) c N D (by omega) (KTy_mO Tm335 rfl rfl trivial ⟨G345, trivial⟩) 59 ⟨by decide, by decide⟩) (fun rr347 k348 => ?_)
        rcases k348 with ⟨m349, Tm349, Fm349, h350, h351, rfl⟩ | ⟨xx354, m352, hx353, Tm352, Fm352, rfl⟩
        rotate_left
        · skip
          refine Or.inr ⟨_, _, _, _, rfl, ?_⟩
          exact Or.inr ⟨xx354, (mO m352 [] []), (hx353), Tm352, (fr_m (fr_s Fm352 (fr_m (fr_s Fm335 (fr_m fr_0 rfl rfl) rfl rfl) rfl rfl) rfl rfl) rfl rfl), rfl⟩
        refine Or.inl ⟨_, _, _, _, rfl, ?_⟩
        refine K_nb (st' := []) rfl ?_
        have g355 : (-1) ≤ m349.1 206 ∧ m349.1 206 ≤ 65535 := Tm349.1 206
        have g356 : 0 ≤ m349.1 207 ∧ m349.1 207 ≤ 4001 := Tm349.1 207
        have g357 : (-9223372036854775808) ≤ m349.1 208 ∧ m349.1 208 ≤ 9223372036854775807 := Tm349.1 208
        replace h350 : (m335.1 206) = (59 : Int) := h350
        replace h351 : (m335.1 213) = 0 := h351
        rewrite [(show (m335.1 213) = (m.1 213) from (fr1 Fm335 213 rfl))] at h351
        refine T_ret rfl (fun _ => rfl) ?_
        exact Or.inl ⟨(mO m349 [] []), Tm349, (fr_m (fr_s Fm349 (fr_m (fr_s Fm335 (fr_m fr_0 rfl rfl) rfl rfl) rfl rfl) rfl rfl) rfl rfl), rfl⟩
      · skip
        refine T_ld 85 (.int (i32 0)) rfl (fun _ => rfl) ?_
        refine T_if 97 88 rfl rfl rfl ⟨by decide, by decide⟩ (fun h358 => absurd (show (0 : Int) ≠ 0 from h358) (by decide)) (fun _ => ?_)
        refine T_ld 89 (.ref 178) rfl (fun _ => rfl) ?_
        refine K_gf 92 (.ref 6) rfl rfl kd_178 rfl rfl rfl ?_
        refine T_ld 93 (.int (i32 5)) rfl (fun _ => rfl) ?_
        refine T_ld 94 (.int (i32 (m.1 207))) rfl (fun _ => rfl) ?_
        refine T_callx 97 51 [.ref 6, .int (i32 5), .int (i32 (m.1 207))] [] rfl (fun _ => rfl) rfl rfl (c_tx_fail w (mO m [] []) c N D (by omega) hT 5 (m.1 207) ⟨by decide, by decide⟩ (r32 (by omega) (by omega)) (show 1 ≤ (5 : Int) ∧ (5 : Int) ≤ 8 by omega) (show 0 ≤ (m.1 207) ∧ (m.1 207) ≤ 4001 by omega)) (fun rr359 k360 => ?_)
        rcases k360 with ⟨m361, Tm361, Fm361, h362, rfl⟩ | ⟨xx365, m363, hx364, Tm363, Fm363, rfl⟩
        rotate_left
        · skip
          refine Or.inr ⟨_, _, _, _, rfl, ?_⟩
          exact Or.inr ⟨xx365, (mO m363 [] []), (hx364), Tm363, (fr_m (fr_s Fm363 (fr_m fr_0 rfl rfl) rfl rfl) rfl rfl), rfl⟩
        exact h362.elim
    · skip
      have hl366 : (m.1 208) > 0 := by omega
      refine T_ld 46 (.ref 178) rfl (fun _ => rfl) ?_
      refine K_gf 49 (.ref 6) rfl rfl kd_178 rfl rfl rfl ?_
      refine K_gf 52 (.long (i64 (m.1 208))) rfl rfl kd_6 rfl rfl rfl ?_
      refine T_ld 53 (.ref 178) rfl (fun _ => rfl) ?_
      refine K_gf 56 (.ref 6) rfl rfl kd_178 rfl rfl rfl ?_
      refine K_gf 59 (.long (i64 (m.1 208))) rfl rfl kd_6 rfl rfl rfl ?_
      refine T_ld 60 (.long (i64 1)) rfl (fun _ => rfl) ?_
      refine T_lsub 61 rfl rfl ?_
      refine T_lnm (fun z367 h368 => ?_)
      obtain ⟨h368a, h368b⟩ := h368
      refine T_lhv 62 _ rfl (fun _ => rfl) (fun z369 h370 => ?_)
      obtain ⟨h370a, h370b⟩ := h370
      refine T_ld 63 (.long (i64 0)) rfl (fun _ => rfl) ?_
      refine T_lcmp 64 rfl rfl (r64 (by omega) (by omega)) ⟨by decide, by decide⟩ (fun z371 h372 => ?_)
      obtain ⟨h372a, h372b, h372c, h372d, h372e⟩ := h372
      refine T_if 71 67 rfl rfl rfl (r32 (by omega) (by omega)) (fun (h373 : z371 ≠ 0) => ?_) (fun (h373 : ¬ (z371 ≠ 0)) => ?_)
      · skip
        have hl374 : z369 ≠ 0 := by omega
        refine T_ld 72 (.int (i32 0)) rfl (fun _ => rfl) ?_
        refine T_sto 74 [(5, .int (i32 0)), (4, .int (i32 1)), (3, .int (i32 (m.1 207))), (2, .int (i32 x3)), (0, .ref 178), (1, .ref (tbr t))] rfl (fun _ => rfl) ?_
        refine T_ld 76 (.int (i32 1)) rfl (fun _ => rfl) ?_
        refine T_if 97 79 rfl rfl rfl ⟨by decide, by decide⟩ (fun h375 => absurd (show (1 : Int) = 0 from h375) (by decide)) (fun _ => ?_)
        refine T_ld 80 (.int (i32 x3)) rfl (fun _ => rfl) ?_
        refine T_if 97 83 rfl rfl rfl (r32 (by omega) (by omega)) (fun (h376 : x3 = 0) => ?_) (fun (h376 : ¬ (x3 = 0)) => ?_)
        · skip
          refine T_ld 98 (.ref (tbr t)) rfl (fun _ => rfl) ?_
          refine T_ld 99 (.ref 178) rfl (fun _ => rfl) ?_
          refine K_gf 102 (.ref 6) rfl rfl kd_178 rfl rfl rfl ?_
          refine T_ld 103 (.int (i32 1)) rfl (fun _ => rfl) ?_
          refine T_ld 104 (.int (i32 x3)) rfl (fun _ => rfl) ?_
          refine T_if 112 107 rfl rfl rfl (r32 (by omega) (by omega)) (fun (h377 : x3 = 0) => ?_) (fun (h377 : ¬ (x3 = 0)) => by exfalso; omega)
          refine T_ld 114 (.int (i32 32)) rfl (fun _ => rfl) ?_
          refine T_callx 117 81 [.ref 6, .int (i32 1), .int (i32 32)] [.ref (tbr t)] rfl (fun _ => rfl) rfl rfl (c_tx_within w (mO m [] []) c N D (by omega) hT 1 32 ⟨by decide, by decide⟩ ⟨by decide, by decide⟩ (show 0 ≤ (1 : Int) ∧ (1 : Int) ≤ (32 : Int) ∧ (32 : Int) ≤ 64 by omega)) (fun rr378 k379 => ?_)
          rcases k379 with ⟨m380, wn, Tm380, Fm380, g381, h382, h383, rfl⟩ | ⟨xx386, m384, hx385, Tm384, Fm384, rfl⟩
          rotate_left
          · skip
            refine Or.inr ⟨_, _, _, _, rfl, ?_⟩
            exact Or.inr ⟨xx386, (mO m384 [] []), (hx385), Tm384, (fr_m (fr_s Fm384 (fr_m fr_0 rfl rfl) rfl rfl) rfl rfl), rfl⟩
          refine Or.inl ⟨_, _, _, _, rfl, ?_⟩
          refine K_nb (st' := [.int (i32 wn), .ref (tbr t)]) rfl ?_
          obtain ⟨g381a, g381b⟩ := g381
          have g387 : (-1) ≤ m380.1 206 ∧ m380.1 206 ≤ 65535 := Tm380.1 206
          have g388 : 0 ≤ m380.1 207 ∧ m380.1 207 ≤ 4001 := Tm380.1 207
          have g389 : (-9223372036854775808) ≤ m380.1 208 ∧ m380.1 208 ≤ 9223372036854775807 := Tm380.1 208
          replace h382 : (1 : Int) ≤ wn ∧ wn ≤ (32 : Int) := h382
          replace h383 : (m.1 213) = 0 := h383
          have G390 : ∀ j, 0 ≤ (upI (m.2 75) t wn) j ∧ (upI (m.2 75) t wn) j ≤ 32 := upI_rg (hT.2.1 75) ⟨by omega, by omega⟩
          refine K_pfi (a' := [(75, upI (m.2 75) t wn)]) 120 75 (m.2 75) rfl rfl rfl (by omega) (by omega) (show (m380.2 75) = (m.2 75) from (fr2 Fm380 75 rfl)) rfl rfl ?_
          refine T_ld 121 (.int (i32 x3)) rfl (fun _ => rfl) ?_
          refine T_if 171 124 rfl rfl rfl (r32 (by omega) (by omega)) (fun (h391 : x3 = 0) => ?_) (fun (h391 : ¬ (x3 = 0)) => by exfalso; omega)
          refine T_ld 172 (.ref 178) rfl (fun _ => rfl) ?_
          refine K_gf 175 (.ref 6) rfl rfl kd_178 rfl rfl rfl ?_
          refine T_ld 177 (.int (i32 59)) rfl (fun _ => rfl) ?_
          refine T_callx 180 78 [.ref 6, .int (i32 59)] [] rfl (fun _ => rfl) rfl rfl (c_tx_expect w (mO m380 [] [(75, upI (m.2 75) t wn)]) c N D (by omega) (KTy_mO Tm380 rfl rfl trivial ⟨G390, trivial⟩) 59 ⟨by decide, by decide⟩) (fun rr392 k393 => ?_)
          rcases k393 with ⟨m394, Tm394, Fm394, h395, h396, rfl⟩ | ⟨xx399, m397, hx398, Tm397, Fm397, rfl⟩
          rotate_left
          · skip
            refine Or.inr ⟨_, _, _, _, rfl, ?_⟩
            exact Or.inr ⟨xx399, (mO m397 [] []), (hx398), Tm397, (fr_m (fr_s Fm397 (fr_m (fr_s Fm380 (fr_m fr_0 rfl rfl) rfl rfl) rfl rfl) rfl rfl) rfl rfl), rfl⟩
          refine Or.inl ⟨_, _, _, _, rfl, ?_⟩
          refine K_nb (st' := []) rfl ?_
          have g400 : (-1) ≤ m394.1 206 ∧ m394.1 206 ≤ 65535 := Tm394.1 206
          have g401 : 0 ≤ m394.1 207 ∧ m394.1 207 ≤ 4001 := Tm394.1 207
          have g402 : (-9223372036854775808) ≤ m394.1 208 ∧ m394.1 208 ≤ 9223372036854775807 := Tm394.1 208
          replace h395 : (m380.1 206) = (59 : Int) := h395
          replace h396 : (m380.1 213) = 0 := h396
          rewrite [(show (m380.1 213) = (m.1 213) from (fr1 Fm380 213 rfl))] at h396
          refine T_ret rfl (fun _ => rfl) ?_
          exact Or.inl ⟨(mO m394 [] []), Tm394, (fr_m (fr_s Fm394 (fr_m (fr_s Fm380 (fr_m fr_0 rfl rfl) rfl rfl) rfl rfl) rfl rfl) rfl rfl), rfl⟩
        · skip
          refine T_ld 85 (.int (i32 0)) rfl (fun _ => rfl) ?_
          refine T_if 97 88 rfl rfl rfl ⟨by decide, by decide⟩ (fun h403 => absurd (show (0 : Int) ≠ 0 from h403) (by decide)) (fun _ => ?_)
          refine T_ld 89 (.ref 178) rfl (fun _ => rfl) ?_
          refine K_gf 92 (.ref 6) rfl rfl kd_178 rfl rfl rfl ?_
          refine T_ld 93 (.int (i32 5)) rfl (fun _ => rfl) ?_
          refine T_ld 94 (.int (i32 (m.1 207))) rfl (fun _ => rfl) ?_
          refine T_callx 97 51 [.ref 6, .int (i32 5), .int (i32 (m.1 207))] [] rfl (fun _ => rfl) rfl rfl (c_tx_fail w (mO m [] []) c N D (by omega) hT 5 (m.1 207) ⟨by decide, by decide⟩ (r32 (by omega) (by omega)) (show 1 ≤ (5 : Int) ∧ (5 : Int) ≤ 8 by omega) (show 0 ≤ (m.1 207) ∧ (m.1 207) ≤ 4001 by omega)) (fun rr404 k405 => ?_)
          rcases k405 with ⟨m406, Tm406, Fm406, h407, rfl⟩ | ⟨xx410, m408, hx409, Tm408, Fm408, rfl⟩
          rotate_left
          · skip
            refine Or.inr ⟨_, _, _, _, rfl, ?_⟩
            exact Or.inr ⟨xx410, (mO m408 [] []), (hx409), Tm408, (fr_m (fr_s Fm408 (fr_m fr_0 rfl rfl) rfl rfl) rfl rfl), rfl⟩
          exact h407.elim
      · skip
        have hl411 : z369 = 0 := by omega
        refine T_ld 68 (.int (i32 1)) rfl (fun _ => rfl) ?_
        refine T_goto 72 rfl (fun _ => rfl) ?_
        refine T_sto 74 [(5, .int (i32 1)), (4, .int (i32 1)), (3, .int (i32 (m.1 207))), (2, .int (i32 x3)), (0, .ref 178), (1, .ref (tbr t))] rfl (fun _ => rfl) ?_
        refine T_ld 76 (.int (i32 1)) rfl (fun _ => rfl) ?_
        refine T_if 97 79 rfl rfl rfl ⟨by decide, by decide⟩ (fun h412 => absurd (show (1 : Int) = 0 from h412) (by decide)) (fun _ => ?_)
        refine T_ld 80 (.int (i32 x3)) rfl (fun _ => rfl) ?_
        refine T_if 97 83 rfl rfl rfl (r32 (by omega) (by omega)) (fun (h413 : x3 = 0) => ?_) (fun (h413 : ¬ (x3 = 0)) => ?_)
        · skip
          refine T_ld 98 (.ref (tbr t)) rfl (fun _ => rfl) ?_
          refine T_ld 99 (.ref 178) rfl (fun _ => rfl) ?_
          refine K_gf 102 (.ref 6) rfl rfl kd_178 rfl rfl rfl ?_
          refine T_ld 103 (.int (i32 1)) rfl (fun _ => rfl) ?_
          refine T_ld 104 (.int (i32 x3)) rfl (fun _ => rfl) ?_
          refine T_if 112 107 rfl rfl rfl (r32 (by omega) (by omega)) (fun (h414 : x3 = 0) => ?_) (fun (h414 : ¬ (x3 = 0)) => by exfalso; omega)
          refine T_ld 114 (.int (i32 32)) rfl (fun _ => rfl) ?_
          refine T_callx 117 81 [.ref 6, .int (i32 1), .int (i32 32)] [.ref (tbr t)] rfl (fun _ => rfl) rfl rfl (c_tx_within w (mO m [] []) c N D (by omega) hT 1 32 ⟨by decide, by decide⟩ ⟨by decide, by decide⟩ (show 0 ≤ (1 : Int) ∧ (1 : Int) ≤ (32 : Int) ∧ (32 : Int) ≤ 64 by omega)) (fun rr415 k416 => ?_)
          rcases k416 with ⟨m417, wn, Tm417, Fm417, g418, h419, h420, rfl⟩ | ⟨xx423, m421, hx422, Tm421, Fm421, rfl⟩
          rotate_left
          · skip
            refine Or.inr ⟨_, _, _, _, rfl, ?_⟩
            exact Or.inr ⟨xx423, (mO m421 [] []), (hx422), Tm421, (fr_m (fr_s Fm421 (fr_m fr_0 rfl rfl) rfl rfl) rfl rfl), rfl⟩
          refine Or.inl ⟨_, _, _, _, rfl, ?_⟩
          refine K_nb (st' := [.int (i32 wn), .ref (tbr t)]) rfl ?_
          obtain ⟨g418a, g418b⟩ := g418
          have g424 : (-1) ≤ m417.1 206 ∧ m417.1 206 ≤ 65535 := Tm417.1 206
          have g425 : 0 ≤ m417.1 207 ∧ m417.1 207 ≤ 4001 := Tm417.1 207
          have g426 : (-9223372036854775808) ≤ m417.1 208 ∧ m417.1 208 ≤ 9223372036854775807 := Tm417.1 208
          replace h419 : (1 : Int) ≤ wn ∧ wn ≤ (32 : Int) := h419
          replace h420 : (m.1 213) = 0 := h420
          have G427 : ∀ j, 0 ≤ (upI (m.2 75) t wn) j ∧ (upI (m.2 75) t wn) j ≤ 32 := upI_rg (hT.2.1 75) ⟨by omega, by omega⟩
          refine K_pfi (a' := [(75, upI (m.2 75) t wn)]) 120 75 (m.2 75) rfl rfl rfl (by omega) (by omega) (show (m417.2 75) = (m.2 75) from (fr2 Fm417 75 rfl)) rfl rfl ?_
          refine T_ld 121 (.int (i32 x3)) rfl (fun _ => rfl) ?_
          refine T_if 171 124 rfl rfl rfl (r32 (by omega) (by omega)) (fun (h428 : x3 = 0) => ?_) (fun (h428 : ¬ (x3 = 0)) => by exfalso; omega)
          refine T_ld 172 (.ref 178) rfl (fun _ => rfl) ?_
          refine K_gf 175 (.ref 6) rfl rfl kd_178 rfl rfl rfl ?_
          refine T_ld 177 (.int (i32 59)) rfl (fun _ => rfl) ?_
          refine T_callx 180 78 [.ref 6, .int (i32 59)] [] rfl (fun _ => rfl) rfl rfl (c_tx_expect w (mO m417 [] [(75, upI (m.2 75) t wn)]) c N D (by omega) (KTy_mO Tm417 rfl rfl trivial ⟨G427, trivial⟩) 59 ⟨by decide, by decide⟩) (fun rr429 k430 => ?_)
          rcases k430 with ⟨m431, Tm431, Fm431, h432, h433, rfl⟩ | ⟨xx436, m434, hx435, Tm434, Fm434, rfl⟩
          rotate_left
          · skip
            refine Or.inr ⟨_, _, _, _, rfl, ?_⟩
            exact Or.inr ⟨xx436, (mO m434 [] []), (hx435), Tm434, (fr_m (fr_s Fm434 (fr_m (fr_s Fm417 (fr_m fr_0 rfl rfl) rfl rfl) rfl rfl) rfl rfl) rfl rfl), rfl⟩
          refine Or.inl ⟨_, _, _, _, rfl, ?_⟩
          refine K_nb (st' := []) rfl ?_
          have g437 : (-1) ≤ m431.1 206 ∧ m431.1 206 ≤ 65535 := Tm431.1 206
          have g438 : 0 ≤ m431.1 207 ∧ m431.1 207 ≤ 4001 := Tm431.1 207
          have g439 : (-9223372036854775808) ≤ m431.1 208 ∧ m431.1 208 ≤ 9223372036854775807 := Tm431.1 208
          replace h432 : (m417.1 206) = (59 : Int) := h432
          replace h433 : (m417.1 213) = 0 := h433
          rewrite [(show (m417.1 213) = (m.1 213) from (fr1 Fm417 213 rfl))] at h433
          refine T_ret rfl (fun _ => rfl) ?_
          exact Or.inl ⟨(mO m431 [] []), Tm431, (fr_m (fr_s Fm431 (fr_m (fr_s Fm417 (fr_m fr_0 rfl rfl) rfl rfl) rfl rfl) rfl rfl) rfl rfl), rfl⟩
        · skip
          refine T_ld 85 (.int (i32 1)) rfl (fun _ => rfl) ?_
          refine T_if 97 88 rfl rfl rfl ⟨by decide, by decide⟩ (fun _ => ?_) (fun h440 => absurd (show (1 : Int) ≠ 0 by decide) h440)
          refine T_ld 98 (.ref (tbr t)) rfl (fun _ => rfl) ?_
          refine T_ld 99 (.ref 178) rfl (fun _ => rfl) ?_
          refine K_gf 102 (.ref 6) rfl rfl kd_178 rfl rfl rfl ?_
          refine T_ld 103 (.int (i32 1)) rfl (fun _ => rfl) ?_
          refine T_ld 104 (.int (i32 x3)) rfl (fun _ => rfl) ?_
          refine T_if 112 107 rfl rfl rfl (r32 (by omega) (by omega)) (fun (h441 : x3 = 0) => by exfalso; omega) (fun (h441 : ¬ (x3 = 0)) => ?_)
          refine T_ld 109 (.int (i32 16)) rfl (fun _ => rfl) ?_
          refine T_goto 114 rfl (fun _ => rfl) ?_
          refine T_callx 117 81 [.ref 6, .int (i32 1), .int (i32 16)] [.ref (tbr t)] rfl (fun _ => rfl) rfl rfl (c_tx_within w (mO m [] []) c N D (by omega) hT 1 16 ⟨by decide, by decide⟩ ⟨by decide, by decide⟩ (show 0 ≤ (1 : Int) ∧ (1 : Int) ≤ (16 : Int) ∧ (16 : Int) ≤ 64 by omega)) (fun rr442 k443 => ?_)
          rcases k443 with ⟨m444, wn, Tm444, Fm444, g445, h446, h447, rfl⟩ | ⟨xx450, m448, hx449, Tm448, Fm448, rfl⟩
          rotate_left
          · skip
            refine Or.inr ⟨_, _, _, _, rfl, ?_⟩
            exact Or.inr ⟨xx450, (mO m448 [] []), (hx449), Tm448, (fr_m (fr_s Fm448 (fr_m fr_0 rfl rfl) rfl rfl) rfl rfl), rfl⟩
          refine Or.inl ⟨_, _, _, _, rfl, ?_⟩
          refine K_nb (st' := [.int (i32 wn), .ref (tbr t)]) rfl ?_
          obtain ⟨g445a, g445b⟩ := g445
          have g451 : (-1) ≤ m444.1 206 ∧ m444.1 206 ≤ 65535 := Tm444.1 206
          have g452 : 0 ≤ m444.1 207 ∧ m444.1 207 ≤ 4001 := Tm444.1 207
          have g453 : (-9223372036854775808) ≤ m444.1 208 ∧ m444.1 208 ≤ 9223372036854775807 := Tm444.1 208
          replace h446 : (1 : Int) ≤ wn ∧ wn ≤ (16 : Int) := h446
          replace h447 : (m.1 213) = 0 := h447
          have G454 : ∀ j, 0 ≤ (upI (m.2 75) t wn) j ∧ (upI (m.2 75) t wn) j ≤ 32 := upI_rg (hT.2.1 75) ⟨by omega, by omega⟩
          refine K_pfi (a' := [(75, upI (m.2 75) t wn)]) 120 75 (m.2 75) rfl rfl rfl (by omega) (by omega) (show (m444.2 75) = (m.2 75) from (fr2 Fm444 75 rfl)) rfl rfl ?_
          refine T_ld 121 (.int (i32 x3)) rfl (fun _ => rfl) ?_
          refine T_if 171 124 rfl rfl rfl (r32 (by omega) (by omega)) (fun (h455 : x3 = 0) => by exfalso; omega) (fun (h455 : ¬ (x3 = 0)) => ?_)
          refine T_ld 125 (.ref 178) rfl (fun _ => rfl) ?_
          refine K_gf 128 (.ref 6) rfl rfl kd_178 rfl rfl rfl ?_
          refine T_ld 131 (.int (i32 317)) rfl (fun _ => rfl) ?_
          refine T_callx 134 78 [.ref 6, .int (i32 317)] [] rfl (fun _ => rfl) rfl rfl (c_tx_expect w (mO m444 [] [(75, upI (m.2 75) t wn)]) c N D (by omega) (KTy_mO Tm444 rfl rfl trivial ⟨G454, trivial⟩) 317 ⟨by decide, by decide⟩) (fun rr456 k457 => ?_)
          rcases k457 with ⟨m458, Tm458, Fm458, h459, h460, rfl⟩ | ⟨xx463, m461, hx462, Tm461, Fm461, rfl⟩
          rotate_left
          · skip
            refine Or.inr ⟨_, _, _, _, rfl, ?_⟩
            exact Or.inr ⟨xx463, (mO m461 [] []), (hx462), Tm461, (fr_m (fr_s Fm461 (fr_m (fr_s Fm444 (fr_m fr_0 rfl rfl) rfl rfl) rfl rfl) rfl rfl) rfl rfl), rfl⟩
          refine Or.inl ⟨_, _, _, _, rfl, ?_⟩
          refine K_nb (st' := []) rfl ?_
          have g464 : (-1) ≤ m458.1 206 ∧ m458.1 206 ≤ 65535 := Tm458.1 206
          have g465 : 0 ≤ m458.1 207 ∧ m458.1 207 ≤ 4001 := Tm458.1 207
          have g466 : (-9223372036854775808) ≤ m458.1 208 ∧ m458.1 208 ≤ 9223372036854775807 := Tm458.1 208
          replace h459 : (m444.1 206) = (317 : Int) := h459
          replace h460 : (m444.1 213) = 0 := h460
          rewrite [(show (m444.1 213) = (m.1 213) from (fr1 Fm444 213 rfl))] at h460
          refine T_ld 135 (.ref (tbr t)) rfl (fun _ => rfl) ?_
          refine T_ld 136 (.ref 178) rfl (fun _ => rfl) ?_
          refine K_gf 139 (.ref 6) rfl rfl kd_178 rfl rfl rfl ?_
          refine T_ld 140 (.int (i32 1)) rfl (fun _ => rfl) ?_
          refine T_ld 141 (.int (i32 4)) rfl (fun _ => rfl) ?_
          refine T_callx 144 81 [.ref 6, .int (i32 1), .int (i32 4)] [.ref (tbr t)] rfl (fun _ => rfl) rfl rfl (c_tx_within w (mO m458 [] []) c N D (by omega) Tm458 1 4 ⟨by decide, by decide⟩ ⟨by decide, by decide⟩ (show 0 ≤ (1 : Int) ∧ (1 : Int) ≤ (4 : Int) ∧ (4 : Int) ≤ 64 by omega)) (fun rr467 k468 => ?_)
          rcases k468 with ⟨m469, wn470, Tm469, Fm469, g471, h472, h473, rfl⟩ | ⟨xx476, m474, hx475, Tm474, Fm474, rfl⟩
          rotate_left
          · skip
            refine Or.inr ⟨_, _, _, _, rfl, ?_⟩
            exact Or.inr ⟨xx476, (mO m474 [] []), (hx475), Tm474, (fr_m (fr_s Fm474 (fr_m (fr_s Fm458 (fr_m (fr_s Fm444 (fr_m fr_0 rfl rfl) rfl rfl) rfl rfl) rfl rfl) rfl rfl) rfl rfl) rfl rfl), rfl⟩
          refine Or.inl ⟨_, _, _, _, rfl, ?_⟩
          refine K_nb (st' := [.int (i32 wn470), .ref (tbr t)]) rfl ?_
          obtain ⟨g471a, g471b⟩ := g471
          have g477 : (-1) ≤ m469.1 206 ∧ m469.1 206 ≤ 65535 := Tm469.1 206
          have g478 : 0 ≤ m469.1 207 ∧ m469.1 207 ≤ 4001 := Tm469.1 207
          have g479 : (-9223372036854775808) ≤ m469.1 208 ∧ m469.1 208 ≤ 9223372036854775807 := Tm469.1 208
          replace h472 : (1 : Int) ≤ wn470 ∧ wn470 ≤ (4 : Int) := h472
          replace h473 : (m458.1 213) = 0 := h473
          rewrite [(show (m458.1 213) = (m.1 213) from ((fr1 Fm458 213 rfl).trans (fr1 Fm444 213 rfl)))] at h473
          have G480 : ∀ j, 0 ≤ (upI (m.2 76) t wn470) j ∧ (upI (m.2 76) t wn470) j ≤ 4 := upI_rg (hT.2.1 76) ⟨by omega, by omega⟩
          refine K_pfi (a' := [(76, upI (m.2 76) t wn470)]) 147 76 (m.2 76) rfl rfl rfl (by omega) (by omega) (show (m469.2 76) = (m.2 76) from ((fr2 Fm469 76 rfl).trans ((fr2 Fm458 76 rfl).trans (fr2 Fm444 76 rfl)))) rfl rfl ?_
          refine T_ld 148 (.ref 178) rfl (fun _ => rfl) ?_
          refine K_gf 151 (.ref 6) rfl rfl kd_178 rfl rfl rfl ?_
          refine T_ld 154 (.int (i32 318)) rfl (fun _ => rfl) ?_
          refine T_callx 157 78 [.ref 6, .int (i32 318)] [] rfl (fun _ => rfl) rfl rfl (c_tx_expect w (mO m469 [] [(76, upI (m.2 76) t wn470)]) c N D (by omega) (KTy_mO Tm469 rfl rfl trivial ⟨G480, trivial⟩) 318 ⟨by decide, by decide⟩) (fun rr481 k482 => ?_)
          rcases k482 with ⟨m483, Tm483, Fm483, h484, h485, rfl⟩ | ⟨xx488, m486, hx487, Tm486, Fm486, rfl⟩
          rotate_left
          · skip
            refine Or.inr ⟨_, _, _, _, rfl, ?_⟩
            exact Or.inr ⟨xx488, (mO m486 [] []), (hx487), Tm486, (fr_m (fr_s Fm486 (fr_m (fr_s Fm469 (fr_m (fr_s Fm458 (fr_m (fr_s Fm444 (fr_m fr_0 rfl rfl) rfl rfl) rfl rfl) rfl rfl) rfl rfl) rfl rfl) rfl rfl) rfl rfl) rfl rfl), rfl⟩
          refine Or.inl ⟨_, _, _, _, rfl, ?_⟩
          refine K_nb (st' := []) rfl ?_
          have g489 : (-1) ≤ m483.1 206 ∧ m483.1 206 ≤ 65535 := Tm483.1 206
          have g490 : 0 ≤ m483.1 207 ∧ m483.1 207 ≤ 4001 := Tm483.1 207
          have g491 : (-9223372036854775808) ≤ m483.1 208 ∧ m483.1 208 ≤ 9223372036854775807 := Tm483.1 208
          replace h484 : (m469.1 206) = (318 : Int) := h484
          replace h485 : (m469.1 213) = 0 := h485
          rewrite [(show (m469.1 213) = (m.1 213) from ((fr1 Fm469 213 rfl).trans ((fr1 Fm458 213 rfl).trans (fr1 Fm444 213 rfl))))] at h485
          refine T_ld 158 (.ref (tbr t)) rfl (fun _ => rfl) ?_
          refine T_ld 159 (.ref 178) rfl (fun _ => rfl) ?_
          refine K_gf 162 (.ref 6) rfl rfl kd_178 rfl rfl rfl ?_
          refine T_ld 163 (.int (i32 0)) rfl (fun _ => rfl) ?_
          refine T_ld 165 (.int (i32 8)) rfl (fun _ => rfl) ?_
          refine T_callx 168 81 [.ref 6, .int (i32 0), .int (i32 8)] [.ref (tbr t)] rfl (fun _ => rfl) rfl rfl (c_tx_within w (mO m483 [] []) c N D (by omega) Tm483 0 8 ⟨by decide, by decide⟩ ⟨by decide, by decide⟩ (show 0 ≤ (0 : Int) ∧ (0 : Int) ≤ (8 : Int) ∧ (8 : Int) ≤ 64 by omega)) (fun rr492 k493 => ?_)
          rcases k493 with ⟨m494, wn495, Tm494, Fm494, g496, h497, h498, rfl⟩ | ⟨xx501, m499, hx500, Tm499, Fm499, rfl⟩
          rotate_left
          · skip
            refine Or.inr ⟨_, _, _, _, rfl, ?_⟩
            exact Or.inr ⟨xx501, (mO m499 [] []), (hx500), Tm499, (fr_m (fr_s Fm499 (fr_m (fr_s Fm483 (fr_m (fr_s Fm469 (fr_m (fr_s Fm458 (fr_m (fr_s Fm444 (fr_m fr_0 rfl rfl) rfl rfl) rfl rfl) rfl rfl) rfl rfl) rfl rfl) rfl rfl) rfl rfl) rfl rfl) rfl rfl) rfl rfl), rfl⟩
          refine Or.inl ⟨_, _, _, _, rfl, ?_⟩
          refine K_nb (st' := [.int (i32 wn495), .ref (tbr t)]) rfl ?_
          obtain ⟨g496a, g496b⟩ := g496
          have g502 : (-1) ≤ m494.1 206 ∧ m494.1 206 ≤ 65535 := Tm494.1 206
          have g503 : 0 ≤ m494.1 207 ∧ m494.1 207 ≤ 4001 := Tm494.1 207
          have g504 : (-9223372036854775808) ≤ m494.1 208 ∧ m494.1 208 ≤ 9223372036854775807 := Tm494.1 208
          replace h497 : (0 : Int) ≤ wn495 ∧ wn495 ≤ (8 : Int) := h497
          replace h498 : (m483.1 213) = 0 := h498
          rewrite [(show (m483.1 213) = (m.1 213) from ((fr1 Fm483 213 rfl).trans ((fr1 Fm469 213 rfl).trans ((fr1 Fm458 213 rfl).trans (fr1 Fm444 213 rfl)))))] at h498
          have G505 : ∀ j, 0 ≤ (upI (m.2 77) t wn495) j ∧ (upI (m.2 77) t wn495) j ≤ 8 := upI_rg (hT.2.1 77) ⟨by omega, by omega⟩
          refine K_pfi (a' := [(77, upI (m.2 77) t wn495)]) 171 77 (m.2 77) rfl rfl rfl (by omega) (by omega) (show (m494.2 77) = (m.2 77) from ((fr2 Fm494 77 rfl).trans ((fr2 Fm483 77 rfl).trans ((fr2 Fm469 77 rfl).trans ((fr2 Fm458 77 rfl).trans (fr2 Fm444 77 rfl)))))) rfl rfl ?_
          refine T_ld 172 (.ref 178) rfl (fun _ => rfl) ?_
          refine K_gf 175 (.ref 6) rfl rfl kd_178 rfl rfl rfl ?_
          refine T_ld 177 (.int (i32 59)) rfl (fun _ => rfl) ?_
          refine T_callx 180 78 [.ref 6, .int (i32 59)] [] rfl (fun _ => rfl) rfl rfl (c_tx_expect w (mO m494 [] [(77, upI (m.2 77) t wn495)]) c N D (by omega) (KTy_mO Tm494 rfl rfl trivial ⟨G505, trivial⟩) 59 ⟨by decide, by decide⟩) (fun rr506 k507 => ?_)
          rcases k507 with ⟨m508, Tm508, Fm508, h509, h510, rfl⟩ | ⟨xx513, m511, hx512, Tm511, Fm511, rfl⟩
          rotate_left
          · skip
            refine Or.inr ⟨_, _, _, _, rfl, ?_⟩
            exact Or.inr ⟨xx513, (mO m511 [] []), (hx512), Tm511, (fr_m (fr_s Fm511 (fr_m (fr_s Fm494 (fr_m (fr_s Fm483 (fr_m (fr_s Fm469 (fr_m (fr_s Fm458 (fr_m (fr_s Fm444 (fr_m fr_0 rfl rfl) rfl rfl) rfl rfl) rfl rfl) rfl rfl) rfl rfl) rfl rfl) rfl rfl) rfl rfl) rfl rfl) rfl rfl) rfl rfl) rfl rfl), rfl⟩
          refine Or.inl ⟨_, _, _, _, rfl, ?_⟩
          refine K_nb (st' := []) rfl ?_
          have g514 : (-1) ≤ m508.1 206 ∧ m508.1 206 ≤ 65535 := Tm508.1 206
          have g515 : 0 ≤ m508.1 207 ∧ m508.1 207 ≤ 4001 := Tm508.1 207
          have g516 : (-9223372036854775808) ≤ m508.1 208 ∧ m508.1 208 ≤ 9223372036854775807 := Tm508.1 208
          replace h509 : (m494.1 206) = (59 : Int) := h509
          replace h510 : (m494.1 213) = 0 := h510
          rewrite [(show (m494.1 213) = (m.1 213) from ((fr1 Fm494 213 rfl).trans ((fr1 Fm483 213 rfl).trans ((fr1 Fm469 213 rfl).trans ((fr1 Fm458 213 rfl).trans (fr1 Fm444 213 rfl))))))] at h510
          refine T_ret rfl (fun _ => rfl) ?_
          exact Or.inl ⟨(mO m508 [] []), Tm508, (fr_m (fr_s Fm508 (fr_m (fr_s Fm494 (fr_m (fr_s Fm483 (fr_m (fr_s Fm469 (fr_m (fr_s Fm458 (fr_m (fr_s Fm444 (fr_m fr_0 rfl rfl) rfl rfl) rfl rfl) rfl rfl) rfl rfl) rfl rfl) rfl rfl) rfl rfl) rfl rfl) rfl rfl) rfl rfl) rfl rfl) rfl rfl), rfl⟩
def fF_rd_openControl : List Nat := [205, 206, 207, 208, 209, 210, 211, 212, 227]
def fA_rd_openControl : List Nat := [66, 67]
def Q_rd_openControl (m : mR) (c : Nat → Option am_C) (N : Nat) : ag_Re af_T → Prop := fun R => (∃ (M : mR), KTy M ∧ fr fF_rd_openControl fA_rd_openControl m M ∧ ((M.1 227) = 1) ∧ R = (.inl (none), (khp M c, N), 0, 0)) ∨ (∃ (x : Nat) (M : mR), (x = 0) ∧ (KTy M) ∧ (fr fF_rd_openControl fA_rd_openControl m M) ∧ R = (.inr x, (khp M c, N), 1, 6))
set_option maxHeartbeats 3000000 in
theorem c_rd_openControl (w : wX) (m : mR) (c : Nat → Option am_C) (N D : Nat) (hD : 9 ≤ D) (hT : KTy m) : TC w D 136 [.ref 178] (khp m c, N) (Q_rd_openControl m c N) := by
  obtain ⟨D, rfl⟩ : ∃ k, D = k + 1 := ⟨D - 1, by omega⟩
  have f206 : (-1) ≤ m.1 206 ∧ m.1 206 ≤ 65535 := hT.1 206
  have f227 : 0 ≤ m.1 227 ∧ m.1 227 ≤ 8 := hT.1 227
  have f213 : 0 ≤ m.1 213 ∧ m.1 213 ≤ 1 := hT.1 213
  refine Tc_of rfl ?_
  rw [show (khp m c, N) = (khp (mO m [] []) c, N) from by rw [mO_nil m]]
  show TT w D pm_136 (0, [(0, .ref 178)], [], (khp (mO m [] []) c, N), 0, 0) (Q_rd_openControl m c N)
  refine T_ld 1 (.ref 178) rfl (fun _ => rfl) ?_
  refine K_gf 4 (.ref 6) rfl rfl kd_178 rfl rfl rfl ?_
  refine T_ld 7 (.int (i32 319)) rfl (fun _ => rfl) ?_
  refine T_callx 10 78 [.ref 6, .int (i32 319)] [] rfl (fun _ => rfl) rfl rfl (c_tx_expect w (mO m [] []) c N D (by omega) hT 319 ⟨by decide, by decide⟩) (fun rr1 k2 => ?_)
  rcases k2 with ⟨m3, Tm3, Fm3, h4, h5, rfl⟩ | ⟨xx8, m6, hx7, Tm6, Fm6, rfl⟩
  rotate_left
  · skip
    refine Or.inr ⟨_, _, _, _, rfl, ?_⟩
    exact Or.inr ⟨xx8, (mO m6 [] []), (hx7), Tm6, (fr_m (fr_s Fm6 (fr_m fr_0 rfl rfl) rfl rfl) rfl rfl), rfl⟩
  refine Or.inl ⟨_, _, _, _, rfl, ?_⟩
  refine K_nb (st' := []) rfl ?_
  have g9 : (-1) ≤ m3.1 206 ∧ m3.1 206 ≤ 65535 := Tm3.1 206
  replace h4 : (m.1 206) = (319 : Int) := h4
  replace h5 : (m.1 213) = 0 := h5
  refine T_ld 11 (.ref 178) rfl (fun _ => rfl) ?_
  refine K_gf 14 (.ref 6) rfl rfl kd_178 rfl rfl rfl ?_
  refine T_ld 16 (.int (i32 123)) rfl (fun _ => rfl) ?_
  refine T_callx 19 78 [.ref 6, .int (i32 123)] [] rfl (fun _ => rfl) rfl rfl (c_tx_expect w (mO m3 [] []) c N D (by omega) Tm3 123 ⟨by decide, by decide⟩) (fun rr10 k11 => ?_)
  rcases k11 with ⟨m12, Tm12, Fm12, h13, h14, rfl⟩ | ⟨xx17, m15, hx16, Tm15, Fm15, rfl⟩
  rotate_left
  · skip
    refine Or.inr ⟨_, _, _, _, rfl, ?_⟩
    exact Or.inr ⟨xx17, (mO m15 [] []), (hx16), Tm15, (fr_m (fr_s Fm15 (fr_m (fr_s Fm3 (fr_m fr_0 rfl rfl) rfl rfl) rfl rfl) rfl rfl) rfl rfl), rfl⟩
  refine Or.inl ⟨_, _, _, _, rfl, ?_⟩
  refine K_nb (st' := []) rfl ?_
  have g18 : (-1) ≤ m12.1 206 ∧ m12.1 206 ≤ 65535 := Tm12.1 206
  replace h13 : (m3.1 206) = (123 : Int) := h13
  replace h14 : (m3.1 213) = 0 := h14
  rewrite [(show (m3.1 213) = (m.1 213) from (fr1 Fm3 213 rfl))] at h14
  refine T_ld 20 (.ref 178) rfl (fun _ => rfl) ?_
  refine K_gf 23 (.ref 179) rfl rfl kd_178 rfl rfl rfl ?_
  refine T_ld 24 (.int (i32 1)) rfl (fun _ => rfl) ?_
  refine T_ld 25 (.int (i32 (-1))) rfl (fun _ => rfl) ?_
  have G19 : ∀ j, (-1) ≤ (upI (m.2 66) 1 (-1)) j ∧ (upI (m.2 66) 1 (-1)) j ≤ 47 := upI_rg (hT.2.1 66) ⟨by omega, by omega⟩
  refine K_iast (a' := [(66, upI (m.2 66) 1 (-1))]) 26 66 (m.2 66) rfl rfl rfl (by omega) (show 1 < (9 : Int) by omega) (show (m12.2 66) = (m.2 66) from ((fr2 Fm12 66 rfl).trans (fr2 Fm3 66 rfl))) rfl ?_
  refine T_ld 27 (.ref 178) rfl (fun _ => rfl) ?_
  refine K_gf 30 (.ref 180) rfl rfl kd_178 rfl rfl rfl ?_
  refine T_ld 31 (.int (i32 1)) rfl (fun _ => rfl) ?_
  refine T_ld 32 (.int (i32 (-1))) rfl (fun _ => rfl) ?_
  have G20 : ∀ j, (-1) ≤ (upI (m.2 67) 1 (-1)) j ∧ (upI (m.2 67) 1 (-1)) j ≤ 1 := upI_rg (hT.2.1 67) ⟨by omega, by omega⟩
  refine K_iast (a' := [(66, upI (m.2 66) 1 (-1)), (67, upI (m.2 67) 1 (-1))]) 33 67 (m.2 67) rfl rfl rfl (by omega) (show 1 < (9 : Int) by omega) (show (m12.2 67) = (m.2 67) from ((fr2 Fm12 67 rfl).trans (fr2 Fm3 67 rfl))) rfl ?_
  refine T_ld 34 (.ref 178) rfl (fun _ => rfl) ?_
  refine T_ld 35 (.int (i32 1)) rfl (fun _ => rfl) ?_
  refine K_pf (l' := [(227, 1)]) 38 1 rfl rfl kd_178 rfl rfl rfl rfl rfl rfl rfl ?_
  refine T_ret rfl (fun _ => rfl) ?_
  exact Or.inl ⟨(mO m12 [(227, 1)] [(66, upI (m.2 66) 1 (-1)), (67, upI (m.2 67) 1 (-1))]), (KTy_mO Tm12 rfl rfl ⟨⟨(by omega : (0 : Int) ≤ 1), (by omega : (1 : Int) ≤ 8)⟩, trivial⟩ ⟨G19, G20, trivial⟩), (fr_m (fr_s Fm12 (fr_m (fr_s Fm3 (fr_m fr_0 rfl rfl) rfl rfl) rfl rfl) rfl rfl) rfl rfl), (show (1 : Int) = 1 by omega), rfl⟩
def fF_rd_closeBlock : List Nat := [205, 206, 207, 208, 209, 210, 211, 212, 227]
def fA_rd_closeBlock : List Nat := [67]
def Q_rd_closeBlock (m : mR) (c : Nat → Option am_C) (N : Nat) : ag_Re af_T → Prop := fun R => (∃ (M : mR), KTy M ∧ fr fF_rd_closeBlock fA_rd_closeBlock m M ∧ R = (.inl (none), (khp M c, N), 0, 0)) ∨ (∃ (x : Nat) (M : mR), (x = 0) ∧ (KTy M) ∧ (fr fF_rd_closeBlock fA_rd_closeBlock m M) ∧ R = (.inr x, (khp M c, N), 1, 6))
set_option maxHeartbeats 3000000 in
theorem c_rd_closeBlock (w : wX) (m : mR) (c : Nat → Option am_C) (N D : Nat) (hD : 9 ≤ D) (hT : KTy m) (p0 : 1 ≤ (m.1 227) ∧ (m.1 227) ≤ 8) : TC w D 138 [.ref 178] (khp m c, N) (Q_rd_closeBlock m c N) := by
  obtain ⟨D, rfl⟩ : ∃ k, D = k + 1 := ⟨D - 1, by omega⟩
  have f206 : (-1) ≤ m.1 206 ∧ m.1 206 ≤ 65535 := hT.1 206
  have f227 : 0 ≤ m.1 227 ∧ m.1 227 ≤ 8 := hT.1 227
  have f213 : 0 ≤ m.1 213 ∧ m.1 213 ≤ 1 := hT.1 213
  refine Tc_of rfl ?_
  rw [show (khp m c, N) = (khp (mO m [] []) c, N) from by rw [mO_nil m]]
  show TT w D pm_138 (0, [(0, .ref 178)], [], (khp (mO m [] []) c, N), 0, 0) (Q_rd_closeBlock m c N)
  refine T_ld 1 (.ref 178) rfl (fun _ => rfl) ?_
  refine K_gf 4 (.ref 6) rfl rfl kd_178 rfl rfl rfl ?_
  refine T_callx 7 50 [.ref 6] [] rfl (fun _ => rfl) rfl rfl (c_tx_advance w (mO m [] []) c N D (by omega) hT ) (fun rr1 k2 => ?_)
  rcases k2 with ⟨m3, Tm3, Fm3, h4, rfl⟩ | ⟨xx7, m5, hx6, Tm5, Fm5, rfl⟩
  rotate_left
  · skip
    refine Or.inr ⟨_, _, _, _, rfl, ?_⟩
    exact Or.inr ⟨xx7, (mO m5 [] []), (hx6), Tm5, (fr_m (fr_s Fm5 (fr_m fr_0 rfl rfl) rfl rfl) rfl rfl), rfl⟩
  refine Or.inl ⟨_, _, _, _, rfl, ?_⟩
  refine K_nb (st' := []) rfl ?_
  have g8 : (-1) ≤ m3.1 206 ∧ m3.1 206 ≤ 65535 := Tm3.1 206
  replace h4 : (m.1 213) = 0 := h4
  refine T_ld 8 (.ref 178) rfl (fun _ => rfl) ?_
  refine K_gf 11 (.ref 180) rfl rfl kd_178 rfl rfl rfl ?_
  refine T_ld 12 (.ref 178) rfl (fun _ => rfl) ?_
  refine K_gf 15 (.int (i32 (m.1 227))) rfl rfl kd_178 rfl (kval_c2 (k := 227) (F := fun x => .int (i32 x)) rfl (show (m3.1 227) = (m.1 227) from (fr1 Fm3 227 rfl))) rfl ?_
  refine K_iald 16 67 (m.2 67) rfl rfl rfl (by omega) (show (m.1 227) < (9 : Int) by omega) (show (m3.2 67) = (m.2 67) from (fr2 Fm3 67 rfl)) ?_
  have e9 : (-1) ≤ (m.2 67) (m.1 227) ∧ (m.2 67) (m.1 227) ≤ 1 := (hT.2.1 67) (m.1 227)
  refine T_ld 17 (.int (i32 1)) rfl (fun _ => rfl) ?_
  refine T_icmp 33 20 rfl rfl rfl (r32 (by omega) (by omega)) ⟨by decide, by decide⟩ (fun (h10 : (m.2 67) (m.1 227) ≠ 1) => ?_) (fun (h10 : ¬ ((m.2 67) (m.1 227) ≠ 1)) => ?_)
  · skip
    refine T_ld 34 (.ref 178) rfl (fun _ => rfl) ?_
    refine T_ld 35 (.ref 178) rfl (fun _ => rfl) ?_
    refine K_gf 38 (.int (i32 (m.1 227))) rfl rfl kd_178 rfl (kval_c2 (k := 227) (F := fun x => .int (i32 x)) rfl (show (m3.1 227) = (m.1 227) from (fr1 Fm3 227 rfl))) rfl ?_
    refine T_ld 39 (.int (i32 1)) rfl (fun _ => rfl) ?_
    refine T_isub 40 rfl rfl ?_
    refine K_pf (l' := [(227, (m.1 227) - 1)]) 43 ((m.1 227) - 1) rfl rfl kd_178 rfl rfl rfl rfl rfl rfl rfl ?_
    have g11 : 0 ≤ (m.1 227) - 1 ∧ (m.1 227) - 1 ≤ 8 := ⟨by omega, by omega⟩
    refine T_ret rfl (fun _ => rfl) ?_
    exact Or.inl ⟨(mO m3 [(227, (m.1 227) - 1)] []), (KTy_mO Tm3 rfl rfl ⟨g11, trivial⟩ trivial), (fr_m (fr_s Fm3 (fr_m fr_0 rfl rfl) rfl rfl) rfl rfl), rfl⟩
  · skip
    refine T_ld 21 (.ref 178) rfl (fun _ => rfl) ?_
    refine K_gf 24 (.ref 6) rfl rfl kd_178 rfl rfl rfl ?_
    refine K_gf 27 (.int (i32 (m3.1 206))) rfl rfl kd_6 rfl rfl rfl ?_
    refine T_ld 30 (.int (i32 322)) rfl (fun _ => rfl) ?_
    refine T_icmp 44 33 rfl rfl rfl (r32 (by omega) (by omega)) ⟨by decide, by decide⟩ (fun (h12 : (m3.1 206) = 322) => ?_) (fun (h12 : ¬ ((m3.1 206) = 322)) => ?_)
    · skip
      refine T_ld 45 (.ref 178) rfl (fun _ => rfl) ?_
      refine K_gf 48 (.ref 6) rfl rfl kd_178 rfl rfl rfl ?_
      refine T_callx 51 50 [.ref 6] [] rfl (fun _ => rfl) rfl rfl (c_tx_advance w (mO m3 [] []) c N D (by omega) Tm3 ) (fun rr13 k14 => ?_)
      rcases k14 with ⟨m15, Tm15, Fm15, h16, rfl⟩ | ⟨xx19, m17, hx18, Tm17, Fm17, rfl⟩
      rotate_left
      · skip
        refine Or.inr ⟨_, _, _, _, rfl, ?_⟩
        exact Or.inr ⟨xx19, (mO m17 [] []), (hx18), Tm17, (fr_m (fr_s Fm17 (fr_m (fr_s Fm3 (fr_m fr_0 rfl rfl) rfl rfl) rfl rfl) rfl rfl) rfl rfl), rfl⟩
      refine Or.inl ⟨_, _, _, _, rfl, ?_⟩
      refine K_nb (st' := []) rfl ?_
      have g20 : (-1) ≤ m15.1 206 ∧ m15.1 206 ≤ 65535 := Tm15.1 206
      replace h16 : (m3.1 213) = 0 := h16
      rewrite [(show (m3.1 213) = (m.1 213) from (fr1 Fm3 213 rfl))] at h16
      refine T_ld 52 (.ref 178) rfl (fun _ => rfl) ?_
      refine K_gf 55 (.ref 6) rfl rfl kd_178 rfl rfl rfl ?_
      refine T_ld 57 (.int (i32 123)) rfl (fun _ => rfl) ?_
      refine T_callx 60 78 [.ref 6, .int (i32 123)] [] rfl (fun _ => rfl) rfl rfl (c_tx_expect w (mO m15 [] []) c N D (by omega) Tm15 123 ⟨by decide, by decide⟩) (fun rr21 k22 => ?_)
      rcases k22 with ⟨m23, Tm23, Fm23, h24, h25, rfl⟩ | ⟨xx28, m26, hx27, Tm26, Fm26, rfl⟩
      rotate_left
      · skip
        refine Or.inr ⟨_, _, _, _, rfl, ?_⟩
        exact Or.inr ⟨xx28, (mO m26 [] []), (hx27), Tm26, (fr_m (fr_s Fm26 (fr_m (fr_s Fm15 (fr_m (fr_s Fm3 (fr_m fr_0 rfl rfl) rfl rfl) rfl rfl) rfl rfl) rfl rfl) rfl rfl) rfl rfl), rfl⟩
      refine Or.inl ⟨_, _, _, _, rfl, ?_⟩
      refine K_nb (st' := []) rfl ?_
      have g29 : (-1) ≤ m23.1 206 ∧ m23.1 206 ≤ 65535 := Tm23.1 206
      replace h24 : (m15.1 206) = (123 : Int) := h24
      replace h25 : (m15.1 213) = 0 := h25
      rewrite [(show (m15.1 213) = (m.1 213) from ((fr1 Fm15 213 rfl).trans (fr1 Fm3 213 rfl)))] at h25
      refine T_ld 61 (.ref 178) rfl (fun _ => rfl) ?_
      refine K_gf 64 (.ref 180) rfl rfl kd_178 rfl rfl rfl ?_
      refine T_ld 65 (.ref 178) rfl (fun _ => rfl) ?_
      refine K_gf 68 (.int (i32 (m.1 227))) rfl rfl kd_178 rfl (kval_c2 (k := 227) (F := fun x => .int (i32 x)) rfl (show (m23.1 227) = (m.1 227) from ((fr1 Fm23 227 rfl).trans ((fr1 Fm15 227 rfl).trans (fr1 Fm3 227 rfl))))) rfl ?_
      refine T_ld 69 (.int (i32 0)) rfl (fun _ => rfl) ?_
      have G30 : ∀ j, (-1) ≤ (upI (m.2 67) (m.1 227) 0) j ∧ (upI (m.2 67) (m.1 227) 0) j ≤ 1 := upI_rg (hT.2.1 67) ⟨by omega, by omega⟩
      refine K_iast (a' := [(67, upI (m.2 67) (m.1 227) 0)]) 70 67 (m.2 67) rfl rfl rfl (by omega) (show (m.1 227) < (9 : Int) by omega) (show (m23.2 67) = (m.2 67) from ((fr2 Fm23 67 rfl).trans ((fr2 Fm15 67 rfl).trans (fr2 Fm3 67 rfl)))) rfl ?_
      refine T_ret rfl (fun _ => rfl) ?_
      exact Or.inl ⟨(mO m23 [] [(67, upI (m.2 67) (m.1 227) 0)]), (KTy_mO Tm23 rfl rfl trivial ⟨G30, trivial⟩), (fr_m (fr_s Fm23 (fr_m (fr_s Fm15 (fr_m (fr_s Fm3 (fr_m fr_0 rfl rfl) rfl rfl) rfl rfl) rfl rfl) rfl rfl) rfl rfl) rfl rfl), rfl⟩
    · skip
      refine T_ld 34 (.ref 178) rfl (fun _ => rfl) ?_
      refine T_ld 35 (.ref 178) rfl (fun _ => rfl) ?_
      refine K_gf 38 (.int (i32 (m.1 227))) rfl rfl kd_178 rfl (kval_c2 (k := 227) (F := fun x => .int (i32 x)) rfl (show (m3.1 227) = (m.1 227) from (fr1 Fm3 227 rfl))) rfl ?_
      refine T_ld 39 (.int (i32 1)) rfl (fun _ => rfl) ?_
      refine T_isub 40 rfl rfl ?_
      refine K_pf (l' := [(227, (m.1 227) - 1)]) 43 ((m.1 227) - 1) rfl rfl kd_178 rfl rfl rfl rfl rfl rfl rfl ?_
      have g31 : 0 ≤ (m.1 227) - 1 ∧ (m.1 227) - 1 ≤ 8 := ⟨by omega, by omega⟩
      refine T_ret rfl (fun _ => rfl) ?_
      exact Or.inl ⟨(mO m3 [(227, (m.1 227) - 1)] []), (KTy_mO Tm3 rfl rfl ⟨g31, trivial⟩ trivial), (fr_m (fr_s Fm3 (fr_m fr_0 rfl rfl) rfl rfl) rfl rfl), rfl⟩
def fF_rd_openIf : List Nat := [205, 206, 207, 208, 209, 210, 211, 212, 213, 220, 227, 228, 229, 230, 231]
def fA_rd_openIf : List Nat := [18, 19, 20, 21, 22, 23, 24, 57, 58, 66, 67, 68, 69, 70]
def Q_rd_openIf (m : mR) (c : Nat → Option am_C) (N : Nat) (s : Int) : ag_Re af_T → Prop := fun R => (∃ (M : mR), KTy M ∧ fr fF_rd_openIf fA_rd_openIf m M ∧ (NKp (M.2 18) (M.2 19)) ∧ ((M.2 58) = upI (m.2 58) s ((M.2 58) s) ∧ 0 ≤ (M.2 58) s) ∧ R = (.inl (none), (khp M c, N), 0, 0)) ∨ (∃ (x : Nat) (M : mR), (x = 0) ∧ (KTy M) ∧ (fr fF_rd_openIf fA_rd_openIf m M) ∧ (NKp (M.2 18) (M.2 19)) ∧ R = (.inr x, (khp M c, N), 1, 6))
set_option maxHeartbeats 3000000 in
theorem c_rd_openIf (w : wX) (m : mR) (c : Nat → Option am_C) (N D : Nat) (hD : 11 ≤ D) (hT : KTy m) (s : Int) (qs : R32 s) (pKP : KPp (m.1 203) (m.2 8) (m.2 9) (m.1 214) (m.1 215) (m.1 216) (m.1 217) (m.1 221) (m.1 223) (m.1 219)) (hNK : NKp (m.2 18) (m.2 19)) (p2 : 0 ≤ s ∧ s ≤ 47) (p3 : 1 ≤ (m.1 227) ∧ (m.1 227) ≤ 8) : TC w D 140 [.ref 178, .int (i32 s)] (khp m c, N) (Q_rd_openIf m c N s) := by
  obtain ⟨D, rfl⟩ : ∃ k, D = k + 1 := ⟨D - 1, by omega⟩
  obtain ⟨qsa, qsb⟩ := id qs
  have f206 : (-1) ≤ m.1 206 ∧ m.1 206 ≤ 65535 := hT.1 206
  have f207 : 0 ≤ m.1 207 ∧ m.1 207 ≤ 4001 := hT.1 207
  have f213 : 0 ≤ m.1 213 ∧ m.1 213 ≤ 1 := hT.1 213
  have f220 : 0 ≤ m.1 220 ∧ m.1 220 ≤ 1090 := hT.1 220
  have f227 : 0 ≤ m.1 227 ∧ m.1 227 ≤ 8 := hT.1 227
  have f203 : 0 ≤ m.1 203 ∧ m.1 203 ≤ 90 := hT.1 203
  have f214 : 0 ≤ m.1 214 ∧ m.1 214 ≤ 12 := hT.1 214
  have f215 : 0 ≤ m.1 215 ∧ m.1 215 ≤ 12 := hT.1 215
  have f216 : 0 ≤ m.1 216 ∧ m.1 216 ≤ 16 := hT.1 216
  have f217 : 0 ≤ m.1 217 ∧ m.1 217 ≤ 8 := hT.1 217
  have f219 : 0 ≤ m.1 219 ∧ m.1 219 ≤ 8 := hT.1 219
  have f221 : 0 ≤ m.1 221 ∧ m.1 221 ≤ 16 := hT.1 221
  have f223 : 0 ≤ m.1 223 ∧ m.1 223 ≤ 16 := hT.1 223
  refine Tc_of rfl ?_
  rw [show (khp m c, N) = (khp (mO m [] []) c, N) from by rw [mO_nil m]]
  show TT w D pm_140 (0, [(0, .ref 178), (1, .int (i32 s))], [], (khp (mO m [] []) c, N), 0, 0) (Q_rd_openIf m c N s)
  refine T_ld 1 (.ref 178) rfl (fun _ => rfl) ?_
  refine K_gf 4 (.ref 6) rfl rfl kd_178 rfl rfl rfl ?_
  refine T_callx 7 50 [.ref 6] [] rfl (fun _ => rfl) rfl rfl (c_tx_advance w (mO m [] []) c N D (by omega) hT ) (fun rr1 k2 => ?_)
  rcases k2 with ⟨m3, Tm3, Fm3, h4, rfl⟩ | ⟨xx7, m5, hx6, Tm5, Fm5, rfl⟩
  rotate_left
  · skip
    refine Or.inr ⟨_, _, _, _, rfl, ?_⟩
    exact Or.inr ⟨xx7, (mO m5 [] []), (hx6), Tm5, (fr_m (fr_s Fm5 (fr_m fr_0 rfl rfl) rfl rfl) rfl rfl), (show NKp (m5.2 18) (m5.2 19) by rewrite [(show (m5.2 18) = (m.2 18) from (fr2 Fm5 18 rfl)), (show (m5.2 19) = (m.2 19) from (fr2 Fm5 19 rfl))]; exact hNK), rfl⟩
  refine Or.inl ⟨_, _, _, _, rfl, ?_⟩
  refine K_nb (st' := []) rfl ?_
  have g8 : (-1) ≤ m3.1 206 ∧ m3.1 206 ≤ 65535 := Tm3.1 206
  have g9 : 0 ≤ m3.1 207 ∧ m3.1 207 ≤ 4001 := Tm3.1 207
  replace h4 : (m.1 213) = 0 := h4
  refine T_ld 8 (.ref 178) rfl (fun _ => rfl) ?_
  refine K_gf 11 (.ref 59) rfl rfl kd_178 rfl rfl rfl ?_
  refine K_gf 14 (.ref 65) rfl rfl kd_59 rfl rfl rfl ?_
  refine T_ld 15 (.int (i32 s)) rfl (fun _ => rfl) ?_
  refine T_ld 16 (.ref 178) rfl (fun _ => rfl) ?_
  refine K_gf 19 (.ref 12) rfl rfl kd_178 rfl rfl rfl ?_
  refine K_gf 22 (.ref 22) rfl rfl kd_12 rfl rfl rfl ?_
  refine K_gf 25 (.int (i32 (m.1 220))) rfl rfl kd_22 rfl (kval_c2 (k := 220) (F := fun x => .int (i32 x)) rfl (show (m3.1 220) = (m.1 220) from (fr1 Fm3 220 rfl))) rfl ?_
  have G10 : ∀ j, 0 ≤ (upI (m.2 57) s (m.1 220)) j ∧ (upI (m.2 57) s (m.1 220)) j ≤ 1090 := upI_rg (hT.2.1 57) ⟨by omega, by omega⟩
  refine K_iast (a' := [(57, upI (m.2 57) s (m.1 220))]) 26 57 (m.2 57) rfl rfl rfl (by omega) (show s < (48 : Int) by omega) (show (m3.2 57) = (m.2 57) from (fr2 Fm3 57 rfl)) rfl ?_
  refine T_ld 27 (.ref 178) rfl (fun _ => rfl) ?_
  refine K_gf 30 (.ref 181) rfl rfl kd_178 rfl rfl rfl ?_
  refine T_ld 31 (.int (i32 (-1))) rfl (fun _ => rfl) ?_
  refine T_callx 34 92 [.ref 181, .int (i32 (-1))] [] rfl (fun _ => rfl) rfl rfl (c_fm_whole w (mO m3 [] [(57, upI (m.2 57) s (m.1 220))]) c N D (by omega) (KTy_mO Tm3 rfl rfl trivial ⟨G10, trivial⟩) (-1) ⟨by decide, by decide⟩ (show NKp (m3.2 18) (m3.2 19) by rewrite [(show (m3.2 18) = (m.2 18) from (fr2 Fm3 18 rfl)), (show (m3.2 19) = (m.2 19) from (fr2 Fm3 19 rfl))]; exact hNK) (show KPp (m3.1 203) (m3.2 8) (m3.2 9) (m3.1 214) (m3.1 215) (m3.1 216) (m3.1 217) (m3.1 221) (m3.1 223) (m3.1 219) by rewrite [(show (m3.1 203) = (m.1 203) from (fr1 Fm3 203 rfl)), (show (m3.2 8) = (m.2 8) from (fr2 Fm3 8 rfl)), (show (m3.2 9) = (m.2 9) from (fr2 Fm3 9 rfl)), (show (m3.1 214) = (m.1 214) from (fr1 Fm3 214 rfl)), (show (m3.1 215) = (m.1 215) from (fr1 Fm3 215 rfl)), (show (m3.1 216) = (m.1 216) from (fr1 Fm3 216 rfl)), (show (m3.1 217) = (m.1 217) from (fr1 Fm3 217 rfl)), (show (m3.1 221) = (m.1 221) from (fr1 Fm3 221 rfl)), (show (m3.1 223) = (m.1 223) from (fr1 Fm3 223 rfl)), (show (m3.1 219) = (m.1 219) from (fr1 Fm3 219 rfl))]; exact pKP) (show (-1) ≤ (-1 : Int) ∧ (-1 : Int) ≤ 15 by omega)) (fun rr11 k12 => ?_)
  rcases k12 with ⟨m13, ro, Tm13, Fm13, g14, h15, rfl⟩ | ⟨xx19, m16, hx17, Tm16, Fm16, h18, rfl⟩
  rotate_left
  · skip
    refine Or.inr ⟨_, _, _, _, rfl, ?_⟩
    have hNK := h18
    exact Or.inr ⟨xx19, (mO m16 [] []), (hx17), Tm16, (fr_m (fr_s Fm16 (fr_m (fr_s Fm3 (fr_m fr_0 rfl rfl) rfl rfl) rfl rfl) rfl rfl) rfl rfl), (show NKp (m16.2 18) (m16.2 19) by exact hNK), rfl⟩
  refine Or.inl ⟨_, _, _, _, rfl, ?_⟩
  refine K_nb (st' := [.int (i32 ro)]) rfl ?_
  obtain ⟨g14a, g14b⟩ := g14
  have g20 : (-1) ≤ m13.1 206 ∧ m13.1 206 ≤ 65535 := Tm13.1 206
  have g21 : 0 ≤ m13.1 207 ∧ m13.1 207 ≤ 4001 := Tm13.1 207
  have g22 : 0 ≤ m13.1 213 ∧ m13.1 213 ≤ 1 := Tm13.1 213
  have g23 : 0 ≤ m13.1 220 ∧ m13.1 220 ≤ 1090 := Tm13.1 220
  replace h15 : NKp (m13.2 18) (m13.2 19) := h15
  have hNK := h15
  refine T_sto 35 [(2, .int (i32 ro)), (0, .ref 178), (1, .int (i32 s))] rfl (fun _ => rfl) ?_
  refine T_ld 36 (.ref 178) rfl (fun _ => rfl) ?_
  refine K_gf 39 (.ref 59) rfl rfl kd_178 rfl rfl rfl ?_
  refine K_gf 42 (.ref 66) rfl rfl kd_59 rfl rfl rfl ?_
  refine T_ld 43 (.int (i32 s)) rfl (fun _ => rfl) ?_
  refine T_ld 44 (.int (i32 ro)) rfl (fun _ => rfl) ?_
  have G24 : ∀ j, (-1) ≤ (upI (m.2 58) s ro) j ∧ (upI (m.2 58) s ro) j ≤ 1089 := upI_rg (hT.2.1 58) ⟨by omega, by omega⟩
  refine K_iast (a' := [(58, upI (m.2 58) s ro)]) 45 58 (m.2 58) rfl rfl rfl (by omega) (show s < (48 : Int) by omega) (show (m13.2 58) = (m.2 58) from ((fr2 Fm13 58 rfl).trans (fr2 Fm3 58 rfl))) rfl ?_
  refine T_ld 46 (.ref 178) rfl (fun _ => rfl) ?_
  refine K_gf 49 (.ref 181) rfl rfl kd_178 rfl rfl rfl ?_
  refine T_ld 50 (.int (i32 ro)) rfl (fun _ => rfl) ?_
  refine T_ld 51 (.int (i32 1)) rfl (fun _ => rfl) ?_
  refine T_callx 54 126 [.ref 181, .int (i32 ro), .int (i32 1)] [] rfl (fun _ => rfl) rfl rfl (c_fm_mustFit w (mO m13 [] [(58, upI (m.2 58) s ro)]) c N D (by omega) (KTy_mO Tm13 rfl rfl trivial ⟨G24, trivial⟩) ro 1 (r32 (by omega) (by omega)) ⟨by decide, by decide⟩ (show 0 ≤ ro ∧ ro ≤ 1089 by omega) (show 0 ≤ (1 : Int) ∧ (1 : Int) ≤ 64 by omega)) (fun rr25 k26 => ?_)
  rcases k26 with ⟨m27, Tm27, Fm27, rfl⟩ | ⟨xx30, m28, hx29, Tm28, Fm28, rfl⟩
  rotate_left
  · skip
    refine Or.inr ⟨_, _, _, _, rfl, ?_⟩
    exact Or.inr ⟨xx30, (mO m28 [] []), (hx29), Tm28, (fr_m (fr_s Fm28 (fr_m (fr_s Fm13 (fr_m (fr_s Fm3 (fr_m fr_0 rfl rfl) rfl rfl) rfl rfl) rfl rfl) rfl rfl) rfl rfl) rfl rfl), (show NKp (m28.2 18) (m28.2 19) by rewrite [(show (m28.2 18) = (m13.2 18) from (fr2 Fm28 18 rfl)), (show (m28.2 19) = (m13.2 19) from (fr2 Fm28 19 rfl))]; exact hNK), rfl⟩
  refine Or.inl ⟨_, _, _, _, rfl, ?_⟩
  refine K_nb (st' := []) rfl ?_
  refine T_ld 55 (.ref 178) rfl (fun _ => rfl) ?_
  refine K_gf 58 (.ref 6) rfl rfl kd_178 rfl rfl rfl ?_
  refine K_gf 61 (.int (i32 (m13.1 206))) rfl rfl kd_6 rfl (kval_c2 (k := 206) (F := fun x => .int (i32 x)) rfl (show (m27.1 206) = (m13.1 206) from (fr1 Fm27 206 rfl))) rfl ?_
  refine T_ld 63 (.int (i32 123)) rfl (fun _ => rfl) ?_
  refine T_icmp 90 66 rfl rfl rfl (r32 (by omega) (by omega)) ⟨by decide, by decide⟩ (fun (h31 : (m13.1 206) ≠ 123) => ?_) (fun (h31 : ¬ ((m13.1 206) ≠ 123)) => ?_)
  · skip
    refine T_ld 91 (.ref 178) rfl (fun _ => rfl) ?_
    refine K_gf 94 (.ref 6) rfl rfl kd_178 rfl rfl rfl ?_
    refine T_ld 96 (.int (i32 123)) rfl (fun _ => rfl) ?_
    refine T_callx 99 78 [.ref 6, .int (i32 123)] [] rfl (fun _ => rfl) rfl rfl (c_tx_expect w (mO m27 [] []) c N D (by omega) Tm27 123 ⟨by decide, by decide⟩) (fun rr32 k33 => ?_)
    rcases k33 with ⟨m34, Tm34, Fm34, h35, h36, rfl⟩ | ⟨xx39, m37, hx38, Tm37, Fm37, rfl⟩
    rotate_left
    · skip
      refine Or.inr ⟨_, _, _, _, rfl, ?_⟩
      exact Or.inr ⟨xx39, (mO m37 [] []), (hx38), Tm37, (fr_m (fr_s Fm37 (fr_m (fr_s Fm27 (fr_m (fr_s Fm13 (fr_m (fr_s Fm3 (fr_m fr_0 rfl rfl) rfl rfl) rfl rfl) rfl rfl) rfl rfl) rfl rfl) rfl rfl) rfl rfl) rfl rfl), (show NKp (m37.2 18) (m37.2 19) by rewrite [(show (m37.2 18) = (m13.2 18) from ((fr2 Fm37 18 rfl).trans (fr2 Fm27 18 rfl))), (show (m37.2 19) = (m13.2 19) from ((fr2 Fm37 19 rfl).trans (fr2 Fm27 19 rfl)))]; exact hNK), rfl⟩
    refine Or.inl ⟨_, _, _, _, rfl, ?_⟩
    refine K_nb (st' := []) rfl ?_
    have g40 : (-1) ≤ m34.1 206 ∧ m34.1 206 ≤ 65535 := Tm34.1 206
    have g41 : 0 ≤ m34.1 207 ∧ m34.1 207 ≤ 4001 := Tm34.1 207
    replace h35 : (m27.1 206) = (123 : Int) := h35
    rewrite [(show (m27.1 206) = (m13.1 206) from (fr1 Fm27 206 rfl))] at h35
    replace h36 : (m27.1 213) = 0 := h36
    rewrite [(show (m27.1 213) = (m13.1 213) from (fr1 Fm27 213 rfl))] at h36
    refine T_ld 100 (.ref 178) rfl (fun _ => rfl) ?_
    refine T_ld 101 (.ref 178) rfl (fun _ => rfl) ?_
    refine K_gf 104 (.int (i32 (m.1 227))) rfl rfl kd_178 rfl (kval_c2 (k := 227) (F := fun x => .int (i32 x)) rfl (show (m34.1 227) = (m.1 227) from ((fr1 Fm34 227 rfl).trans ((fr1 Fm27 227 rfl).trans ((fr1 Fm13 227 rfl).trans (fr1 Fm3 227 rfl)))))) rfl ?_
    refine T_ld 105 (.int (i32 1)) rfl (fun _ => rfl) ?_
    refine T_iadd 106 rfl rfl ?_
    refine K_pf (l' := [(227, (m.1 227) + 1)]) 109 ((m.1 227) + 1) rfl rfl kd_178 rfl rfl rfl rfl rfl rfl rfl ?_
    have g42 : 0 ≤ (m.1 227) + 1 ∧ (m.1 227) + 1 ≤ 8 := ⟨by omega, by omega⟩
    refine T_ld 110 (.ref 178) rfl (fun _ => rfl) ?_
    refine K_gf 113 (.ref 179) rfl rfl kd_178 rfl rfl rfl ?_
    refine T_ld 114 (.ref 178) rfl (fun _ => rfl) ?_
    refine K_gf 117 (.int (i32 ((m.1 227) + 1))) rfl rfl kd_178 rfl rfl rfl ?_
    refine T_ld 118 (.int (i32 s)) rfl (fun _ => rfl) ?_
    have G43 : ∀ j, (-1) ≤ (upI (m.2 66) ((m.1 227) + 1) s) j ∧ (upI (m.2 66) ((m.1 227) + 1) s) j ≤ 47 := upI_rg (hT.2.1 66) ⟨by omega, by omega⟩
    refine K_iast (a' := [(66, upI (m.2 66) ((m.1 227) + 1) s)]) 119 66 (m.2 66) rfl rfl rfl (by omega) (show ((m.1 227) + 1) < (9 : Int) by omega) (show (m34.2 66) = (m.2 66) from ((fr2 Fm34 66 rfl).trans ((fr2 Fm27 66 rfl).trans ((fr2 Fm13 66 rfl).trans (fr2 Fm3 66 rfl))))) rfl ?_
    refine T_ld 120 (.ref 178) rfl (fun _ => rfl) ?_
    refine K_gf 123 (.ref 180) rfl rfl kd_178 rfl rfl rfl ?_
    refine T_ld 124 (.ref 178) rfl (fun _ => rfl) ?_
    refine K_gf 127 (.int (i32 ((m.1 227) + 1))) rfl rfl kd_178 rfl rfl rfl ?_
    refine T_ld 128 (.int (i32 1)) rfl (fun _ => rfl) ?_
    have G44 : ∀ j, (-1) ≤ (upI (m.2 67) ((m.1 227) + 1) 1) j ∧ (upI (m.2 67) ((m.1 227) + 1) 1) j ≤ 1 := upI_rg (hT.2.1 67) ⟨by omega, by omega⟩
    refine K_iast (a' := [(66, upI (m.2 66) ((m.1 227) + 1) s), (67, upI (m.2 67) ((m.1 227) + 1) 1)]) 129 67 (m.2 67) rfl rfl rfl (by omega) (show ((m.1 227) + 1) < (9 : Int) by omega) (show (m34.2 67) = (m.2 67) from ((fr2 Fm34 67 rfl).trans ((fr2 Fm27 67 rfl).trans ((fr2 Fm13 67 rfl).trans (fr2 Fm3 67 rfl))))) rfl ?_
    refine T_ret rfl (fun _ => rfl) ?_
    exact Or.inl ⟨(mO m34 [(227, (m.1 227) + 1)] [(66, upI (m.2 66) ((m.1 227) + 1) s), (67, upI (m.2 67) ((m.1 227) + 1) 1)]), (KTy_mO Tm34 rfl rfl ⟨g42, trivial⟩ ⟨G43, G44, trivial⟩), (fr_m (fr_s Fm34 (fr_m (fr_s Fm27 (fr_m (fr_s Fm13 (fr_m (fr_s Fm3 (fr_m fr_0 rfl rfl) rfl rfl) rfl rfl) rfl rfl) rfl rfl) rfl rfl) rfl rfl) rfl rfl) rfl rfl), (show NKp (m34.2 18) (m34.2 19) by rewrite [(show (m34.2 18) = (m13.2 18) from ((fr2 Fm34 18 rfl).trans (fr2 Fm27 18 rfl))), (show (m34.2 19) = (m13.2 19) from ((fr2 Fm34 19 rfl).trans (fr2 Fm27 19 rfl)))]; first | (exact hNK) | (exfalso; omega)), (show (m34.2 58) = upI (m.2 58) s ((m34.2 58) s) ∧ 0 ≤ (m34.2 58) s by rewrite [(show (m34.2 58) = (upI (m.2 58) s ro) from ((fr2 Fm34 58 rfl).trans (fr2 Fm27 58 rfl)))]; first | (rw [upI_s]; exact ⟨rfl, by omega⟩) | (exfalso; omega)), rfl⟩
  · skip
    refine T_ld 67 (.ref 178) rfl (fun _ => rfl) ?_
    refine K_gf 70 (.int (i32 (m.1 227))) rfl rfl kd_178 rfl (kval_c2 (k := 227) (F := fun x => .int (i32 x)) rfl (show (m27.1 227) = (m.1 227) from ((fr1 Fm27 227 rfl).trans ((fr1 Fm13 227 rfl).trans (fr1 Fm3 227 rfl))))) rfl ?_
    refine T_ld 72 (.int (i32 8)) rfl (fun _ => rfl) ?_
    refine T_icmp 90 75 rfl rfl rfl (r32 (by omega) (by omega)) ⟨by decide, by decide⟩ (fun (h45 : (m.1 227) < 8) => ?_) (fun (h45 : ¬ ((m.1 227) < 8)) => ?_)
    · skip
      refine T_ld 91 (.ref 178) rfl (fun _ => rfl) ?_
      refine K_gf 94 (.ref 6) rfl rfl kd_178 rfl rfl rfl ?_
      refine T_ld 96 (.int (i32 123)) rfl (fun _ => rfl) ?_
      refine T_callx 99 78 [.ref 6, .int (i32 123)] [] rfl (fun _ => rfl) rfl rfl (c_tx_expect w (mO m27 [] []) c N D (by omega) Tm27 123 ⟨by decide, by decide⟩) (fun rr46 k47 => ?_)
      rcases k47 with ⟨m48, Tm48, Fm48, h49, h50, rfl⟩ | ⟨xx53, m51, hx52, Tm51, Fm51, rfl⟩
      rotate_left
      · skip
        refine Or.inr ⟨_, _, _, _, rfl, ?_⟩
        exact Or.inr ⟨xx53, (mO m51 [] []), (hx52), Tm51, (fr_m (fr_s Fm51 (fr_m (fr_s Fm27 (fr_m (fr_s Fm13 (fr_m (fr_s Fm3 (fr_m fr_0 rfl rfl) rfl rfl) rfl rfl) rfl rfl) rfl rfl) rfl rfl) rfl rfl) rfl rfl) rfl rfl), (show NKp (m51.2 18) (m51.2 19) by rewrite [(show (m51.2 18) = (m13.2 18) from ((fr2 Fm51 18 rfl).trans (fr2 Fm27 18 rfl))), (show (m51.2 19) = (m13.2 19) from ((fr2 Fm51 19 rfl).trans (fr2 Fm27 19 rfl)))]; exact hNK), rfl⟩
      refine Or.inl ⟨_, _, _, _, rfl, ?_⟩
      refine K_nb (st' := []) rfl ?_
      have g54 : (-1) ≤ m48.1 206 ∧ m48.1 206 ≤ 65535 := Tm48.1 206
      have g55 : 0 ≤ m48.1 207 ∧ m48.1 207 ≤ 4001 := Tm48.1 207
      replace h49 : (m27.1 206) = (123 : Int) := h49
      rewrite [(show (m27.1 206) = (m13.1 206) from (fr1 Fm27 206 rfl))] at h49
      replace h50 : (m27.1 213) = 0 := h50
      rewrite [(show (m27.1 213) = (m13.1 213) from (fr1 Fm27 213 rfl))] at h50
      refine T_ld 100 (.ref 178) rfl (fun _ => rfl) ?_
      refine T_ld 101 (.ref 178) rfl (fun _ => rfl) ?_
      refine K_gf 104 (.int (i32 (m.1 227))) rfl rfl kd_178 rfl (kval_c2 (k := 227) (F := fun x => .int (i32 x)) rfl (show (m48.1 227) = (m.1 227) from ((fr1 Fm48 227 rfl).trans ((fr1 Fm27 227 rfl).trans ((fr1 Fm13 227 rfl).trans (fr1 Fm3 227 rfl)))))) rfl ?_
      refine T_ld 105 (.int (i32 1)) rfl (fun _ => rfl) ?_
      refine T_iadd 106 rfl rfl ?_
      refine K_pf (l' := [(227, (m.1 227) + 1)]) 109 ((m.1 227) + 1) rfl rfl kd_178 rfl rfl rfl rfl rfl rfl rfl ?_
      have g56 : 0 ≤ (m.1 227) + 1 ∧ (m.1 227) + 1 ≤ 8 := ⟨by omega, by omega⟩
      refine T_ld 110 (.ref 178) rfl (fun _ => rfl) ?_
      refine K_gf 113 (.ref 179) rfl rfl kd_178 rfl rfl rfl ?_
      refine T_ld 114 (.ref 178) rfl (fun _ => rfl) ?_
      refine K_gf 117 (.int (i32 ((m.1 227) + 1))) rfl rfl kd_178 rfl rfl rfl ?_
      refine T_ld 118 (.int (i32 s)) rfl (fun _ => rfl) ?_
      have G57 : ∀ j, (-1) ≤ (upI (m.2 66) ((m.1 227) + 1) s) j ∧ (upI (m.2 66) ((m.1 227) + 1) s) j ≤ 47 := upI_rg (hT.2.1 66) ⟨by omega, by omega⟩
      refine K_iast (a' := [(66, upI (m.2 66) ((m.1 227) + 1) s)]) 119 66 (m.2 66) rfl rfl rfl (by omega) (show ((m.1 227) + 1) < (9 : Int) by omega) (show (m48.2 66) = (m.2 66) from ((fr2 Fm48 66 rfl).trans ((fr2 Fm27 66 rfl).trans ((fr2 Fm13 66 rfl).trans (fr2 Fm3 66 rfl))))) rfl ?_
      refine T_ld 120 (.ref 178) rfl (fun _ => rfl) ?_
      refine K_gf 123 (.ref 180) rfl rfl kd_178 rfl rfl rfl ?_
      refine T_ld 124 (.ref 178) rfl (fun _ => rfl) ?_
      refine K_gf 127 (.int (i32 ((m.1 227) + 1))) rfl rfl kd_178 rfl rfl rfl ?_
      refine T_ld 128 (.int (i32 1)) rfl (fun _ => rfl) ?_
      have G58 : ∀ j, (-1) ≤ (upI (m.2 67) ((m.1 227) + 1) 1) j ∧ (upI (m.2 67) ((m.1 227) + 1) 1) j ≤ 1 := upI_rg (hT.2.1 67) ⟨by omega, by omega⟩
      refine K_iast (a' := [(66, upI (m.2 66) ((m.1 227) + 1) s), (67, upI (m.2 67) ((m.1 227) + 1) 1)]) 129 67 (m.2 67) rfl rfl rfl (by omega) (show ((m.1 227) + 1) < (9 : Int) by omega) (show (m48.2 67) = (m.2 67) from ((fr2 Fm48 67 rfl).trans ((fr2 Fm27 67 rfl).trans ((fr2 Fm13 67 rfl).trans (fr2 Fm3 67 rfl))))) rfl ?_
      refine T_ret rfl (fun _ => rfl) ?_
      exact Or.inl ⟨(mO m48 [(227, (m.1 227) + 1)] [(66, upI (m.2 66) ((m.1 227) + 1) s), (67, upI (m.2 67) ((m.1 227) + 1) 1)]), (KTy_mO Tm48 rfl rfl ⟨g56, trivial⟩ ⟨G57, G58, trivial⟩), (fr_m (fr_s Fm48 (fr_m (fr_s Fm27 (fr_m (fr_s Fm13 (fr_m (fr_s Fm3 (fr_m fr_0 rfl rfl) rfl rfl) rfl rfl) rfl rfl) rfl rfl) rfl rfl) rfl rfl) rfl rfl) rfl rfl), (show NKp (m48.2 18) (m48.2 19) by rewrite [(show (m48.2 18) = (m13.2 18) from ((fr2 Fm48 18 rfl).trans (fr2 Fm27 18 rfl))), (show (m48.2 19) = (m13.2 19) from ((fr2 Fm48 19 rfl).trans (fr2 Fm27 19 rfl)))]; first | (exact hNK) | (exfalso; omega)), (show (m48.2 58) = upI (m.2 58) s ((m48.2 58) s) ∧ 0 ≤ (m48.2 58) s by rewrite [(show (m48.2 58) = (upI (m.2 58) s ro) from ((fr2 Fm48 58 rfl).trans (fr2 Fm27 58 rfl)))]; first | (rw [upI_s]; exact ⟨rfl, by omega⟩) | (exfalso; omega)), rfl⟩
    · skip
      refine T_ld 76 (.ref 178) rfl (fun _ => rfl) ?_
      refine K_gf 79 (.ref 6) rfl rfl kd_178 rfl rfl rfl ?_
      refine T_ld 80 (.int (i32 4)) rfl (fun _ => rfl) ?_
      refine T_ld 81 (.ref 178) rfl (fun _ => rfl) ?_
      refine K_gf 84 (.ref 6) rfl rfl kd_178 rfl rfl rfl ?_
      refine K_gf 87 (.int (i32 (m13.1 207))) rfl rfl kd_6 rfl (kval_c2 (k := 207) (F := fun x => .int (i32 x)) rfl (show (m27.1 207) = (m13.1 207) from (fr1 Fm27 207 rfl))) rfl ?_
      refine T_callx 90 51 [.ref 6, .int (i32 4), .int (i32 (m13.1 207))] [] rfl (fun _ => rfl) rfl rfl (c_tx_fail w (mO m27 [] []) c N D (by omega) Tm27 4 (m13.1 207) ⟨by decide, by decide⟩ (r32 (by omega) (by omega)) (show 1 ≤ (4 : Int) ∧ (4 : Int) ≤ 8 by omega) (show 0 ≤ (m13.1 207) ∧ (m13.1 207) ≤ 4001 by omega)) (fun rr59 k60 => ?_)
      rcases k60 with ⟨m61, Tm61, Fm61, h62, rfl⟩ | ⟨xx65, m63, hx64, Tm63, Fm63, rfl⟩
      rotate_left
      · skip
        refine Or.inr ⟨_, _, _, _, rfl, ?_⟩
        exact Or.inr ⟨xx65, (mO m63 [] []), (hx64), Tm63, (fr_m (fr_s Fm63 (fr_m (fr_s Fm27 (fr_m (fr_s Fm13 (fr_m (fr_s Fm3 (fr_m fr_0 rfl rfl) rfl rfl) rfl rfl) rfl rfl) rfl rfl) rfl rfl) rfl rfl) rfl rfl) rfl rfl), (show NKp (m63.2 18) (m63.2 19) by rewrite [(show (m63.2 18) = (m13.2 18) from ((fr2 Fm63 18 rfl).trans (fr2 Fm27 18 rfl))), (show (m63.2 19) = (m13.2 19) from ((fr2 Fm63 19 rfl).trans (fr2 Fm27 19 rfl)))]; exact hNK), rfl⟩
      exact h62.elim
def fF_rd_apply : List Nat := [205, 206, 207, 208, 209, 210, 211, 212]
def fA_rd_apply : List Nat := [55]
def Q_rd_apply (m : mR) (c : Nat → Option am_C) (N : Nat) (s : Int) : ag_Re af_T → Prop := fun R => (∃ (M : mR), KTy M ∧ fr fF_rd_apply fA_rd_apply m M ∧ ((M.2 55) = upI (m.2 55) s ((M.2 55) s) ∧ 0 ≤ (M.2 55) s ∧ (M.2 55) s < (m.1 219)) ∧ R = (.inl (none), (khp M c, N), 0, 0)) ∨ (∃ (x : Nat) (M : mR), (x = 0) ∧ (KTy M) ∧ (fr fF_rd_apply fA_rd_apply m M) ∧ R = (.inr x, (khp M c, N), 1, 6))
set_option maxHeartbeats 3000000 in
theorem c_rd_apply (w : wX) (m : mR) (c : Nat → Option am_C) (N D : Nat) (hD : 9 ≤ D) (hT : KTy m) (s : Int) (qs : R32 s) (pKP : KPp (m.1 203) (m.2 8) (m.2 9) (m.1 214) (m.1 215) (m.1 216) (m.1 217) (m.1 221) (m.1 223) (m.1 219)) (p1 : 0 ≤ s ∧ s ≤ 47) : TC w D 141 [.ref 178, .int (i32 s)] (khp m c, N) (Q_rd_apply m c N s) := by
  obtain ⟨D, rfl⟩ : ∃ k, D = k + 1 := ⟨D - 1, by omega⟩
  obtain ⟨qsa, qsb⟩ := id qs
  have f206 : (-1) ≤ m.1 206 ∧ m.1 206 ≤ 65535 := hT.1 206
  have f207 : 0 ≤ m.1 207 ∧ m.1 207 ≤ 4001 := hT.1 207
  have f203 : 0 ≤ m.1 203 ∧ m.1 203 ≤ 90 := hT.1 203
  have f213 : 0 ≤ m.1 213 ∧ m.1 213 ≤ 1 := hT.1 213
  have f214 : 0 ≤ m.1 214 ∧ m.1 214 ≤ 12 := hT.1 214
  have f215 : 0 ≤ m.1 215 ∧ m.1 215 ≤ 12 := hT.1 215
  have f216 : 0 ≤ m.1 216 ∧ m.1 216 ≤ 16 := hT.1 216
  have f217 : 0 ≤ m.1 217 ∧ m.1 217 ≤ 8 := hT.1 217
  have f219 : 0 ≤ m.1 219 ∧ m.1 219 ≤ 8 := hT.1 219
  have f221 : 0 ≤ m.1 221 ∧ m.1 221 ≤ 16 := hT.1 221
  have f223 : 0 ≤ m.1 223 ∧ m.1 223 ≤ 16 := hT.1 223
  have f225 : 0 ≤ m.1 225 ∧ m.1 225 ≤ 48 := hT.1 225
  refine Tc_of rfl ?_
  rw [show (khp m c, N) = (khp (mO m [] []) c, N) from by rw [mO_nil m]]
  show TT w D pm_141 (0, [(0, .ref 178), (1, .int (i32 s))], [], (khp (mO m [] []) c, N), 0, 0) (Q_rd_apply m c N s)
  refine T_ld 1 (.ref 178) rfl (fun _ => rfl) ?_
  refine K_gf 4 (.ref 6) rfl rfl kd_178 rfl rfl rfl ?_
  refine T_callx 7 50 [.ref 6] [] rfl (fun _ => rfl) rfl rfl (c_tx_advance w (mO m [] []) c N D (by omega) hT ) (fun rr1 k2 => ?_)
  rcases k2 with ⟨m3, Tm3, Fm3, h4, rfl⟩ | ⟨xx7, m5, hx6, Tm5, Fm5, rfl⟩
  rotate_left
  · skip
    refine Or.inr ⟨_, _, _, _, rfl, ?_⟩
    exact Or.inr ⟨xx7, (mO m5 [] []), (hx6), Tm5, (fr_m (fr_s Fm5 (fr_m fr_0 rfl rfl) rfl rfl) rfl rfl), rfl⟩
  refine Or.inl ⟨_, _, _, _, rfl, ?_⟩
  refine K_nb (st' := []) rfl ?_
  have g8 : (-1) ≤ m3.1 206 ∧ m3.1 206 ≤ 65535 := Tm3.1 206
  have g9 : 0 ≤ m3.1 207 ∧ m3.1 207 ≤ 4001 := Tm3.1 207
  replace h4 : (m.1 213) = 0 := h4
  refine T_ld 8 (.ref 178) rfl (fun _ => rfl) ?_
  refine K_gf 11 (.ref 6) rfl rfl kd_178 rfl rfl rfl ?_
  refine K_gf 14 (.int (i32 (m3.1 207))) rfl rfl kd_6 rfl rfl rfl ?_
  refine T_sto 15 [(2, .int (i32 (m3.1 207))), (0, .ref 178), (1, .int (i32 s))] rfl (fun _ => rfl) ?_
  refine T_ld 16 (.ref 178) rfl (fun _ => rfl) ?_
  refine K_gf 19 (.ref 6) rfl rfl kd_178 rfl rfl rfl ?_
  refine T_ld 22 (.int (i32 310)) rfl (fun _ => rfl) ?_
  refine T_callx 25 83 [.ref 6, .int (i32 310)] [] rfl (fun _ => rfl) rfl rfl (c_tx_known w (mO m3 [] []) c N D (by omega) Tm3 310 ⟨by decide, by decide⟩) (fun rr10 k11 => ?_)
  rcases k11 with ⟨m12, kn, Tm12, Fm12, g13, h14, h15, h16, rfl⟩ | ⟨xx19, m17, hx18, Tm17, Fm17, rfl⟩
  rotate_left
  · skip
    refine Or.inr ⟨_, _, _, _, rfl, ?_⟩
    exact Or.inr ⟨xx19, (mO m17 [] []), (hx18), Tm17, (fr_m (fr_s Fm17 (fr_m (fr_s Fm3 (fr_m fr_0 rfl rfl) rfl rfl) rfl rfl) rfl rfl) rfl rfl), rfl⟩
  refine Or.inl ⟨_, _, _, _, rfl, ?_⟩
  refine K_nb (st' := [.int (i32 kn)]) rfl ?_
  obtain ⟨g13a, g13b⟩ := g13
  have g20 : (-1) ≤ m12.1 206 ∧ m12.1 206 ≤ 65535 := Tm12.1 206
  have g21 : 0 ≤ m12.1 207 ∧ m12.1 207 ≤ 4001 := Tm12.1 207
  replace h14 : KNo (m3.1 203) (m3.2 8) (m3.2 9) (310 : Int) kn := h14
  rewrite [(show (m3.1 203) = (m.1 203) from (fr1 Fm3 203 rfl)), (show (m3.2 8) = (m.2 8) from (fr2 Fm3 8 rfl)), (show (m3.2 9) = (m.2 9) from (fr2 Fm3 9 rfl))] at h14
  have hKn := h14
  replace h15 : (m3.1 213) = 0 := h15
  rewrite [(show (m3.1 213) = (m.1 213) from (fr1 Fm3 213 rfl))] at h15
  replace h16 : (m3.1 206) = 256 := h16
  have hkn := KNo_w pKP hKn
  refine T_sto 26 [(3, .int (i32 kn)), (2, .int (i32 (m3.1 207))), (0, .ref 178), (1, .int (i32 s))] rfl (fun _ => rfl) ?_
  refine T_ld 27 (.ref 178) rfl (fun _ => rfl) ?_
  refine K_gf 30 (.ref 59) rfl rfl kd_178 rfl rfl rfl ?_
  refine T_ld 31 (.int (i32 kn)) rfl (fun _ => rfl) ?_
  refine T_callx 34 142 [.ref 59, .int (i32 kn)] [] rfl (fun _ => rfl) rfl rfl (c_sp_applying w (mO m12 [] []) c N D (by omega) Tm12 kn (r32 (by omega) (by omega))) (fun rr22 k23 => ?_)
  obtain ⟨x24, g25, h26, rfl⟩ := k23
  refine Or.inl ⟨_, _, _, _, rfl, ?_⟩
  refine T_ns (st' := [.int (i32 x24)]) rfl ?_
  obtain ⟨g25a, g25b⟩ := g25
  replace h26 : x24 < (m12.1 225) := h26
  rewrite [(show (m12.1 225) = (m.1 225) from ((fr1 Fm12 225 rfl).trans (fr1 Fm3 225 rfl)))] at h26
  refine T_ld 35 (.int (i32 (-1))) rfl (fun _ => rfl) ?_
  refine T_icmp 48 38 rfl rfl rfl (r32 (by omega) (by omega)) ⟨by decide, by decide⟩ (fun (h27 : x24 = (-1)) => ?_) (fun (h27 : ¬ (x24 = (-1))) => ?_)
  · skip
    refine T_ld 49 (.ref 178) rfl (fun _ => rfl) ?_
    refine K_gf 52 (.ref 59) rfl rfl kd_178 rfl rfl rfl ?_
    refine K_gf 55 (.ref 63) rfl rfl kd_59 rfl rfl rfl ?_
    refine T_ld 56 (.int (i32 s)) rfl (fun _ => rfl) ?_
    refine T_ld 57 (.int (i32 kn)) rfl (fun _ => rfl) ?_
    have G28 : ∀ j, (-1) ≤ (upI (m.2 55) s kn) j ∧ (upI (m.2 55) s kn) j ≤ 7 := upI_rg (hT.2.1 55) ⟨by omega, by omega⟩
    refine K_iast (a' := [(55, upI (m.2 55) s kn)]) 58 55 (m.2 55) rfl rfl rfl (by omega) (show s < (48 : Int) by omega) (show (m12.2 55) = (m.2 55) from ((fr2 Fm12 55 rfl).trans (fr2 Fm3 55 rfl))) rfl ?_
    refine T_ld 59 (.ref 178) rfl (fun _ => rfl) ?_
    refine K_gf 62 (.ref 6) rfl rfl kd_178 rfl rfl rfl ?_
    refine T_ld 64 (.int (i32 59)) rfl (fun _ => rfl) ?_
    refine T_callx 67 78 [.ref 6, .int (i32 59)] [] rfl (fun _ => rfl) rfl rfl (c_tx_expect w (mO m12 [] [(55, upI (m.2 55) s kn)]) c N D (by omega) (KTy_mO Tm12 rfl rfl trivial ⟨G28, trivial⟩) 59 ⟨by decide, by decide⟩) (fun rr29 k30 => ?_)
    rcases k30 with ⟨m31, Tm31, Fm31, h32, h33, rfl⟩ | ⟨xx36, m34, hx35, Tm34, Fm34, rfl⟩
    rotate_left
    · skip
      refine Or.inr ⟨_, _, _, _, rfl, ?_⟩
      exact Or.inr ⟨xx36, (mO m34 [] []), (hx35), Tm34, (fr_m (fr_s Fm34 (fr_m (fr_s Fm12 (fr_m (fr_s Fm3 (fr_m fr_0 rfl rfl) rfl rfl) rfl rfl) rfl rfl) rfl rfl) rfl rfl) rfl rfl), rfl⟩
    refine Or.inl ⟨_, _, _, _, rfl, ?_⟩
    refine K_nb (st' := []) rfl ?_
    have g37 : (-1) ≤ m31.1 206 ∧ m31.1 206 ≤ 65535 := Tm31.1 206
    have g38 : 0 ≤ m31.1 207 ∧ m31.1 207 ≤ 4001 := Tm31.1 207
    replace h32 : (m12.1 206) = (59 : Int) := h32
    replace h33 : (m12.1 213) = 0 := h33
    rewrite [(show (m12.1 213) = (m.1 213) from ((fr1 Fm12 213 rfl).trans (fr1 Fm3 213 rfl)))] at h33
    refine T_ret rfl (fun _ => rfl) ?_
    exact Or.inl ⟨(mO m31 [] []), Tm31, (fr_m (fr_s Fm31 (fr_m (fr_s Fm12 (fr_m (fr_s Fm3 (fr_m fr_0 rfl rfl) rfl rfl) rfl rfl) rfl rfl) rfl rfl) rfl rfl) rfl rfl), (show (m31.2 55) = upI (m.2 55) s ((m31.2 55) s) ∧ 0 ≤ (m31.2 55) s ∧ (m31.2 55) s < (m.1 219) by rewrite [(show (m31.2 55) = (upI (m.2 55) s kn) from (fr2 Fm31 55 rfl))]; first | (rw [upI_s]; exact ⟨rfl, by omega, by omega⟩) | (exfalso; omega)), rfl⟩
  · skip
    refine T_ld 39 (.ref 178) rfl (fun _ => rfl) ?_
    refine K_gf 42 (.ref 6) rfl rfl kd_178 rfl rfl rfl ?_
    refine T_ld 44 (.int (i32 8)) rfl (fun _ => rfl) ?_
    refine T_ld 45 (.int (i32 (m3.1 207))) rfl (fun _ => rfl) ?_
    refine T_callx 48 51 [.ref 6, .int (i32 8), .int (i32 (m3.1 207))] [] rfl (fun _ => rfl) rfl rfl (c_tx_fail w (mO m12 [] []) c N D (by omega) Tm12 8 (m3.1 207) ⟨by decide, by decide⟩ (r32 (by omega) (by omega)) (show 1 ≤ (8 : Int) ∧ (8 : Int) ≤ 8 by omega) (show 0 ≤ (m3.1 207) ∧ (m3.1 207) ≤ 4001 by omega)) (fun rr39 k40 => ?_)
    rcases k40 with ⟨m41, Tm41, Fm41, h42, rfl⟩ | ⟨xx45, m43, hx44, Tm43, Fm43, rfl⟩
    rotate_left
    · skip
      refine Or.inr ⟨_, _, _, _, rfl, ?_⟩
      exact Or.inr ⟨xx45, (mO m43 [] []), (hx44), Tm43, (fr_m (fr_s Fm43 (fr_m (fr_s Fm12 (fr_m (fr_s Fm3 (fr_m fr_0 rfl rfl) rfl rfl) rfl rfl) rfl rfl) rfl rfl) rfl rfl) rfl rfl), rfl⟩
    exact h42.elim
def fF_rd_emit : List Nat := [205, 206, 207, 208, 209, 210, 211, 212, 218]
def fA_rd_emit : List Nat := [17]
def Q_rd_emit (m : mR) (c : Nat → Option am_C) (N : Nat) : ag_Re af_T → Prop := fun R => (∃ (M : mR), KTy M ∧ fr fF_rd_emit fA_rd_emit m M ∧ (LTp (M.1 218) (M.2 17) (m.1 215)) ∧ R = (.inl (none), (khp M c, N), 0, 0)) ∨ (∃ (x : Nat) (M : mR), (x = 0) ∧ (KTy M) ∧ (fr fF_rd_emit fA_rd_emit m M) ∧ R = (.inr x, (khp M c, N), 1, 6))
set_option maxHeartbeats 3000000 in
theorem c_rd_emit (w : wX) (m : mR) (c : Nat → Option am_C) (N D : Nat) (hD : 9 ≤ D) (hT : KTy m) (pKP : KPp (m.1 203) (m.2 8) (m.2 9) (m.1 214) (m.1 215) (m.1 216) (m.1 217) (m.1 221) (m.1 223) (m.1 219)) (p1 : (m.1 218) = 0) : TC w D 143 [.ref 178] (khp m c, N) (Q_rd_emit m c N) := by
  obtain ⟨D, rfl⟩ : ∃ k, D = k + 1 := ⟨D - 1, by omega⟩
  have f206 : (-1) ≤ m.1 206 ∧ m.1 206 ≤ 65535 := hT.1 206
  have f207 : 0 ≤ m.1 207 ∧ m.1 207 ≤ 4001 := hT.1 207
  have f218 : 0 ≤ m.1 218 ∧ m.1 218 ≤ 12 := hT.1 218
  have f203 : 0 ≤ m.1 203 ∧ m.1 203 ≤ 90 := hT.1 203
  have f213 : 0 ≤ m.1 213 ∧ m.1 213 ≤ 1 := hT.1 213
  have f214 : 0 ≤ m.1 214 ∧ m.1 214 ≤ 12 := hT.1 214
  have f215 : 0 ≤ m.1 215 ∧ m.1 215 ≤ 12 := hT.1 215
  have f216 : 0 ≤ m.1 216 ∧ m.1 216 ≤ 16 := hT.1 216
  have f217 : 0 ≤ m.1 217 ∧ m.1 217 ≤ 8 := hT.1 217
  have f219 : 0 ≤ m.1 219 ∧ m.1 219 ≤ 8 := hT.1 219
  have f221 : 0 ≤ m.1 221 ∧ m.1 221 ≤ 16 := hT.1 221
  have f223 : 0 ≤ m.1 223 ∧ m.1 223 ≤ 16 := hT.1 223
  refine Tc_of rfl ?_
  rw [show (khp m c, N) = (khp (mO m [] []) c, N) from by rw [mO_nil m]]
  show TT w D pm_143 (0, [(0, .ref 178)], [], (khp (mO m [] []) c, N), 0, 0) (Q_rd_emit m c N)
  refine T_ld 1 (.ref 178) rfl (fun _ => rfl) ?_
  refine K_gf 4 (.ref 6) rfl rfl kd_178 rfl rfl rfl ?_
  refine T_ld 7 (.int (i32 323)) rfl (fun _ => rfl) ?_
  refine T_callx 10 78 [.ref 6, .int (i32 323)] [] rfl (fun _ => rfl) rfl rfl (c_tx_expect w (mO m [] []) c N D (by omega) hT 323 ⟨by decide, by decide⟩) (fun rr1 k2 => ?_)
  rcases k2 with ⟨m3, Tm3, Fm3, h4, h5, rfl⟩ | ⟨xx8, m6, hx7, Tm6, Fm6, rfl⟩
  rotate_left
  · skip
    refine Or.inr ⟨_, _, _, _, rfl, ?_⟩
    exact Or.inr ⟨xx8, (mO m6 [] []), (hx7), Tm6, (fr_m (fr_s Fm6 (fr_m fr_0 rfl rfl) rfl rfl) rfl rfl), rfl⟩
  refine Or.inl ⟨_, _, _, _, rfl, ?_⟩
  refine K_nb (st' := []) rfl ?_
  have g9 : (-1) ≤ m3.1 206 ∧ m3.1 206 ≤ 65535 := Tm3.1 206
  have g10 : 0 ≤ m3.1 207 ∧ m3.1 207 ≤ 4001 := Tm3.1 207
  replace h4 : (m.1 206) = (323 : Int) := h4
  replace h5 : (m.1 213) = 0 := h5
  refine T_ld 11 (.int (i32 1)) rfl (fun _ => rfl) ?_
  refine T_sto 12 [(1, .int (i32 1)), (0, .ref 178)] rfl (fun _ => rfl) ?_
  refine T_ld 13 (.int (i32 0)) rfl (fun _ => rfl) ?_
  refine T_sto 14 [(2, .int (i32 0)), (1, .int (i32 1)), (0, .ref 178)] rfl (fun _ => rfl) ?_
  have L14_14 : ∀ (n26 : Nat) (v11 : Int) (v12 : Int) (m13 : mR), (R32 v11) → (R32 v12) → KTy m13 → fr [205, 206, 207, 208, 209, 210, 211, 212, 218] [17] (mO m3 [] []) m13 → (0 ≤ v11) → (v11 ≤ 1) → (0 ≤ v12) → (v11 = 0 ∨ v11 = 1) → (0 ≤ v12 ∧ v12 ≤ 13) → (LTp (m13.1 218) (m13.2 17) (m.1 215)) → (DSp (m13.1 218) (m13.2 17)) → 20 - v12 < (n26 : Int) → TT w D pm_143 (14, [(0, .ref 178), (1, .int (i32 v11)), (2, .int (i32 v12))], [], (khp (mO m13 [] []) c, N), 0, 0) (Q_rd_emit m c N) := by
    intro n26
    induction n26 with
    | zero =>
      intro v11 v12 m13 q22 q23 Tm13 Fm13 ic15 ic16 ic17 ic18 ic19 ic20 ic21 hmu
      obtain ⟨q22a, q22b⟩ := id q22
      obtain ⟨q23a, q23b⟩ := id q23
      have q24_206 : (-1) ≤ m13.1 206 ∧ m13.1 206 ≤ 65535 := Tm13.1 206
      have q24_207 : 0 ≤ m13.1 207 ∧ m13.1 207 ≤ 4001 := Tm13.1 207
      have q24_218 : 0 ≤ m13.1 218 ∧ m13.1 218 ≤ 12 := Tm13.1 218
      have hEM := ic20
      have hDS := ic21
      exfalso
      omega
    | succ n26 ih =>
      intro v11 v12 m13 q22 q23 Tm13 Fm13 ic15 ic16 ic17 ic18 ic19 ic20 ic21 hmu
      obtain ⟨q22a, q22b⟩ := id q22
      obtain ⟨q23a, q23b⟩ := id q23
      have q24_206 : (-1) ≤ m13.1 206 ∧ m13.1 206 ≤ 65535 := Tm13.1 206
      have q24_207 : 0 ≤ m13.1 207 ∧ m13.1 207 ≤ 4001 := Tm13.1 207
      have q24_218 : 0 ≤ m13.1 218 ∧ m13.1 218 ≤ 12 := Tm13.1 218
      have hEM := ic20
      have hDS := ic21
      have ih27 := ih
      refine T_ld 15 (.int (i32 v12)) rfl (fun _ => rfl) ?_
      refine T_ld 17 (.int (i32 12)) rfl (fun _ => rfl) ?_
      refine T_icmp 131 20 rfl rfl rfl (r32 (by omega) (by omega)) ⟨by decide, by decide⟩ (fun (h28 : (12 : Int) < v12) => ?_) (fun (h28 : ¬ ((12 : Int) < v12)) => ?_)
      · skip
        refine T_ld 132 (.ref 178) rfl (fun _ => rfl) ?_
        refine K_gf 135 (.ref 6) rfl rfl kd_178 rfl rfl rfl ?_
        refine T_ld 137 (.int (i32 59)) rfl (fun _ => rfl) ?_
        refine T_callx 140 78 [.ref 6, .int (i32 59)] [] rfl (fun _ => rfl) rfl rfl (c_tx_expect w (mO m13 [] []) c N D (by omega) Tm13 59 ⟨by decide, by decide⟩) (fun rr29 k30 => ?_)
        rcases k30 with ⟨m31, Tm31, Fm31, h32, h33, rfl⟩ | ⟨xx36, m34, hx35, Tm34, Fm34, rfl⟩
        rotate_left
        · skip
          refine Or.inr ⟨_, _, _, _, rfl, ?_⟩
          exact Or.inr ⟨xx36, (mO m34 [] []), (hx35), Tm34, (fr_m (fr_s Fm34 (fr_m (fr_s Fm13 (fr_m (fr_s Fm3 (fr_m fr_0 rfl rfl) rfl rfl) rfl rfl) rfl rfl) rfl rfl) rfl rfl) rfl rfl), rfl⟩
        refine Or.inl ⟨_, _, _, _, rfl, ?_⟩
        refine K_nb (st' := []) rfl ?_
        have g37 : (-1) ≤ m31.1 206 ∧ m31.1 206 ≤ 65535 := Tm31.1 206
        have g38 : 0 ≤ m31.1 207 ∧ m31.1 207 ≤ 4001 := Tm31.1 207
        replace h32 : (m13.1 206) = (59 : Int) := h32
        replace h33 : (m13.1 213) = 0 := h33
        rewrite [(show (m13.1 213) = (m.1 213) from ((fr1 Fm13 213 rfl).trans (fr1 Fm3 213 rfl)))] at h33
        refine T_ret rfl (fun _ => rfl) ?_
        exact Or.inl ⟨(mO m31 [] []), Tm31, (fr_m (fr_s Fm31 (fr_m (fr_s Fm13 (fr_m (fr_s Fm3 (fr_m fr_0 rfl rfl) rfl rfl) rfl rfl) rfl rfl) rfl rfl) rfl rfl) rfl rfl), (show LTp (m31.1 218) (m31.2 17) (m.1 215) by rewrite [(show (m31.1 218) = (m13.1 218) from (fr1 Fm31 218 rfl)), (show (m31.2 17) = (m13.2 17) from (fr2 Fm31 17 rfl))]; first | (exact hEM) | (exfalso; omega)), rfl⟩
      · skip
        refine T_ld 21 (.int (i32 v11)) rfl (fun _ => rfl) ?_
        refine T_if 131 24 rfl rfl rfl (r32 (by omega) (by omega)) (fun (h39 : v11 = 0) => ?_) (fun (h39 : ¬ (v11 = 0)) => ?_)
        · skip
          refine T_ld 132 (.ref 178) rfl (fun _ => rfl) ?_
          refine K_gf 135 (.ref 6) rfl rfl kd_178 rfl rfl rfl ?_
          refine T_ld 137 (.int (i32 59)) rfl (fun _ => rfl) ?_
          refine T_callx 140 78 [.ref 6, .int (i32 59)] [] rfl (fun _ => rfl) rfl rfl (c_tx_expect w (mO m13 [] []) c N D (by omega) Tm13 59 ⟨by decide, by decide⟩) (fun rr40 k41 => ?_)
          rcases k41 with ⟨m42, Tm42, Fm42, h43, h44, rfl⟩ | ⟨xx47, m45, hx46, Tm45, Fm45, rfl⟩
          rotate_left
          · skip
            refine Or.inr ⟨_, _, _, _, rfl, ?_⟩
            exact Or.inr ⟨xx47, (mO m45 [] []), (hx46), Tm45, (fr_m (fr_s Fm45 (fr_m (fr_s Fm13 (fr_m (fr_s Fm3 (fr_m fr_0 rfl rfl) rfl rfl) rfl rfl) rfl rfl) rfl rfl) rfl rfl) rfl rfl), rfl⟩
          refine Or.inl ⟨_, _, _, _, rfl, ?_⟩
          refine K_nb (st' := []) rfl ?_
          have g48 : (-1) ≤ m42.1 206 ∧ m42.1 206 ≤ 65535 := Tm42.1 206
          have g49 : 0 ≤ m42.1 207 ∧ m42.1 207 ≤ 4001 := Tm42.1 207
          replace h43 : (m13.1 206) = (59 : Int) := h43
          replace h44 : (m13.1 213) = 0 := h44
          rewrite [(show (m13.1 213) = (m.1 213) from ((fr1 Fm13 213 rfl).trans (fr1 Fm3 213 rfl)))] at h44
          refine T_ret rfl (fun _ => rfl) ?_
          exact Or.inl ⟨(mO m42 [] []), Tm42, (fr_m (fr_s Fm42 (fr_m (fr_s Fm13 (fr_m (fr_s Fm3 (fr_m fr_0 rfl rfl) rfl rfl) rfl rfl) rfl rfl) rfl rfl) rfl rfl) rfl rfl), (show LTp (m42.1 218) (m42.2 17) (m.1 215) by rewrite [(show (m42.1 218) = (m13.1 218) from (fr1 Fm42 218 rfl)), (show (m42.2 17) = (m13.2 17) from (fr2 Fm42 17 rfl))]; first | (exact hEM) | (exfalso; omega)), rfl⟩
        · skip
          refine T_ld 25 (.ref 178) rfl (fun _ => rfl) ?_
          refine K_gf 28 (.ref 6) rfl rfl kd_178 rfl rfl rfl ?_
          refine K_gf 31 (.int (i32 (m13.1 207))) rfl rfl kd_6 rfl rfl rfl ?_
          refine T_sto 32 [(3, .int (i32 (m13.1 207))), (0, .ref 178), (1, .int (i32 v11)), (2, .int (i32 v12))] rfl (fun _ => rfl) ?_
          refine T_ld 33 (.ref 178) rfl (fun _ => rfl) ?_
          refine K_gf 36 (.ref 6) rfl rfl kd_178 rfl rfl rfl ?_
          refine T_ld 39 (.int (i32 301)) rfl (fun _ => rfl) ?_
          refine T_callx 42 83 [.ref 6, .int (i32 301)] [] rfl (fun _ => rfl) rfl rfl (c_tx_known w (mO m13 [] []) c N D (by omega) Tm13 301 ⟨by decide, by decide⟩) (fun rr50 k51 => ?_)
          rcases k51 with ⟨m52, kn, Tm52, Fm52, g53, h54, h55, h56, rfl⟩ | ⟨xx59, m57, hx58, Tm57, Fm57, rfl⟩
          rotate_left
          · skip
            refine Or.inr ⟨_, _, _, _, rfl, ?_⟩
            exact Or.inr ⟨xx59, (mO m57 [] []), (hx58), Tm57, (fr_m (fr_s Fm57 (fr_m (fr_s Fm13 (fr_m (fr_s Fm3 (fr_m fr_0 rfl rfl) rfl rfl) rfl rfl) rfl rfl) rfl rfl) rfl rfl) rfl rfl), rfl⟩
          refine Or.inl ⟨_, _, _, _, rfl, ?_⟩
          refine K_nb (st' := [.int (i32 kn)]) rfl ?_
          obtain ⟨g53a, g53b⟩ := g53
          have g60 : (-1) ≤ m52.1 206 ∧ m52.1 206 ≤ 65535 := Tm52.1 206
          have g61 : 0 ≤ m52.1 207 ∧ m52.1 207 ≤ 4001 := Tm52.1 207
          replace h54 : KNo (m13.1 203) (m13.2 8) (m13.2 9) (301 : Int) kn := h54
          rewrite [(show (m13.1 203) = (m.1 203) from ((fr1 Fm13 203 rfl).trans (fr1 Fm3 203 rfl))), (show (m13.2 8) = (m.2 8) from ((fr2 Fm13 8 rfl).trans (fr2 Fm3 8 rfl))), (show (m13.2 9) = (m.2 9) from ((fr2 Fm13 9 rfl).trans (fr2 Fm3 9 rfl)))] at h54
          have hKn := h54
          replace h55 : (m13.1 213) = 0 := h55
          rewrite [(show (m13.1 213) = (m.1 213) from ((fr1 Fm13 213 rfl).trans (fr1 Fm3 213 rfl)))] at h55
          replace h56 : (m13.1 206) = 256 := h56
          have hkn := KNo_w pKP hKn
          refine T_sto 44 [(4, .int (i32 kn)), (3, .int (i32 (m13.1 207))), (0, .ref 178), (1, .int (i32 v11)), (2, .int (i32 v12))] rfl (fun _ => rfl) ?_
          refine T_ld 45 (.int (i32 0)) rfl (fun _ => rfl) ?_
          refine T_sto 47 [(5, .int (i32 0)), (4, .int (i32 kn)), (3, .int (i32 (m13.1 207))), (0, .ref 178), (1, .int (i32 v11)), (2, .int (i32 v12))] rfl (fun _ => rfl) ?_
          have L47_64 : ∀ (n72 : Nat) (v62 : Int) (m63 : mR), (R32 v62) → KTy m63 → fr [211, 212] [] (mO m52 [] []) m63 → (0 ≤ v62) → (0 ≤ v62 ∧ v62 ≤ 12) → (v62 ≤ (m13.1 218)) → (∀ j, 0 ≤ j → j < v62 → (m13.2 17) j ≠ kn) → 20 - v62 < (n72 : Int) → TT w D pm_143 (47, [(0, .ref 178), (2, .int (i32 v12)), (3, .int (i32 (m13.1 207))), (4, .int (i32 kn)), (5, .int (i32 v62))], [], (khp (mO m63 [] []) c, N), 0, 0) (Q_rd_emit m c N) := by
            intro n72
            induction n72 with
            | zero =>
              intro v62 m63 q69 Tm63 Fm63 ic65 ic66 ic67 ic68 hmu
              obtain ⟨q69a, q69b⟩ := id q69
              have hNl := ic68
              exfalso
              omega
            | succ n72 ih =>
              intro v62 m63 q69 Tm63 Fm63 ic65 ic66 ic67 ic68 hmu
              obtain ⟨q69a, q69b⟩ := id q69
              have hNl := ic68
              have ih73 := ih
              refine T_ld 49 (.int (i32 v62)) rfl (fun _ => rfl) ?_
              refine T_ld 50 (.ref 178) rfl (fun _ => rfl) ?_
              refine K_gf 53 (.ref 12) rfl rfl kd_178 rfl rfl rfl ?_
              refine K_gf 56 (.int (i32 (m13.1 218))) rfl rfl kd_12 rfl (kval_c2 (k := 218) (F := fun x => .int (i32 x)) rfl (show (m63.1 218) = (m13.1 218) from ((fr1 Fm63 218 rfl).trans (fr1 Fm52 218 rfl)))) rfl ?_
              refine T_icmp 90 59 rfl rfl rfl (r32 (by omega) (by omega)) (r32 (by omega) (by omega)) (fun (h74 : (m13.1 218) ≤ v62) => ?_) (fun (h74 : ¬ ((m13.1 218) ≤ v62)) => ?_)
              · skip
                have hNe : ∀ j, 0 ≤ j → j < (m13.1 218) → (m13.2 17) j ≠ kn := fun j a b => hNl j a (by omega)
                have hPg := pig12 hDS (by omega) hNe (by omega) (Tm13.2.1 17)
                refine T_ld 91 (.ref 178) rfl (fun _ => rfl) ?_
                refine K_gf 94 (.ref 12) rfl rfl kd_178 rfl rfl rfl ?_
                refine K_gf 97 (.ref 20) rfl rfl kd_12 rfl rfl rfl ?_
                refine T_ld 98 (.ref 178) rfl (fun _ => rfl) ?_
                refine K_gf 101 (.ref 12) rfl rfl kd_178 rfl rfl rfl ?_
                refine K_gf 104 (.int (i32 (m13.1 218))) rfl rfl kd_12 rfl (kval_c2 (k := 218) (F := fun x => .int (i32 x)) rfl (show (m63.1 218) = (m13.1 218) from ((fr1 Fm63 218 rfl).trans (fr1 Fm52 218 rfl)))) rfl ?_
                refine T_ld 106 (.int (i32 kn)) rfl (fun _ => rfl) ?_
                have G75 : ∀ j, 0 ≤ (upI (m13.2 17) (m13.1 218) kn) j ∧ (upI (m13.2 17) (m13.1 218) kn) j ≤ 11 := upI_rg (Tm13.2.1 17) ⟨by omega, by omega⟩
                refine K_iast (a' := [(17, upI (m13.2 17) (m13.1 218) kn)]) 107 17 (m13.2 17) rfl rfl rfl (by omega) (show (m13.1 218) < (12 : Int) by omega) (show (m63.2 17) = (m13.2 17) from ((fr2 Fm63 17 rfl).trans (fr2 Fm52 17 rfl))) rfl ?_
                refine T_ld 108 (.ref 178) rfl (fun _ => rfl) ?_
                refine K_gf 111 (.ref 12) rfl rfl kd_178 rfl rfl rfl ?_
                refine T_ld 112 (.ref 12) rfl (fun _ => rfl) ?_
                refine K_gf 115 (.int (i32 (m13.1 218))) rfl rfl kd_12 rfl (kval_c2 (k := 218) (F := fun x => .int (i32 x)) rfl (show (m63.1 218) = (m13.1 218) from ((fr1 Fm63 218 rfl).trans (fr1 Fm52 218 rfl)))) rfl ?_
                refine T_ld 116 (.int (i32 1)) rfl (fun _ => rfl) ?_
                refine T_iadd 117 rfl rfl ?_
                refine K_pf (l' := [(218, (m13.1 218) + 1)]) 120 ((m13.1 218) + 1) rfl rfl kd_12 rfl rfl rfl rfl rfl rfl rfl ?_
                have g76 : 0 ≤ (m13.1 218) + 1 ∧ (m13.1 218) + 1 ≤ 12 := ⟨by omega, by omega⟩
                refine T_ld 121 (.ref 178) rfl (fun _ => rfl) ?_
                refine T_callx 124 120 [.ref 178] [] rfl (fun _ => rfl) rfl rfl (c_rd_goesOnList w (mO m63 [(218, (m13.1 218) + 1)] [(17, upI (m13.2 17) (m13.1 218) kn)]) c N D (by omega) (KTy_mO Tm63 rfl rfl ⟨g76, trivial⟩ ⟨G75, trivial⟩) ) (fun rr77 k78 => ?_)
                rcases k78 with ⟨m79, gl, Tm79, Fm79, g80, rfl⟩ | ⟨xx83, m81, hx82, Tm81, Fm81, rfl⟩
                rotate_left
                · skip
                  refine Or.inr ⟨_, _, _, _, rfl, ?_⟩
                  exact Or.inr ⟨xx83, (mO m81 [] []), (hx82), Tm81, (fr_m (fr_s Fm81 (fr_m (fr_s Fm63 (fr_m (fr_s Fm52 (fr_m (fr_s Fm13 (fr_m (fr_s Fm3 (fr_m fr_0 rfl rfl) rfl rfl) rfl rfl) rfl rfl) rfl rfl) rfl rfl) rfl rfl) rfl rfl) rfl rfl) rfl rfl) rfl rfl), rfl⟩
                refine Or.inl ⟨_, _, _, _, rfl, ?_⟩
                refine K_nb (st' := [.int (i32 gl)]) rfl ?_
                obtain ⟨g80a, g80b⟩ := g80
                have g84 : (-1) ≤ m79.1 206 ∧ m79.1 206 ≤ 65535 := Tm79.1 206
                have g85 : 0 ≤ m79.1 207 ∧ m79.1 207 ≤ 4001 := Tm79.1 207
                refine T_sto 125 [(1, .int (i32 gl)), (0, .ref 178), (2, .int (i32 v12)), (3, .int (i32 (m13.1 207))), (4, .int (i32 kn)), (5, .int (i32 v62))] rfl (fun _ => rfl) ?_
                refine T_iinc 128 [(2, .int (i32 (v12 + 1))), (1, .int (i32 gl)), (0, .ref 178), (3, .int (i32 (m13.1 207))), (4, .int (i32 kn)), (5, .int (i32 v62))] rfl rfl (by decide) rfl rfl ?_
                refine T_goto 14 rfl (fun _ => rfl) ?_
                refine Tm_lv (a := [(0, .ref 178), (1, .int (i32 gl)), (2, .int (i32 (v12 + 1)))]) rfl rfl ⟨rfl, rfl, rfl, trivial⟩ ?_
                exact ih27 gl (v12 + 1) (mO m79 [] []) (r32 (by omega) (by omega)) (r32 (by omega) (by omega)) Tm79 (fr_m (fr_s Fm79 (fr_m (fr_s Fm63 (fr_m (fr_s Fm52 (fr_m (fr_s Fm13 (fr_m fr_0 rfl rfl) rfl rfl) rfl rfl) rfl rfl) rfl rfl) rfl rfl) rfl rfl) rfl rfl) rfl rfl) (show 0 ≤ gl by omega) (show gl ≤ 1 by omega) (show 0 ≤ (v12 + 1) by omega) (show gl = 0 ∨ gl = 1 by omega) (show 0 ≤ (v12 + 1) ∧ (v12 + 1) ≤ 13 by omega) (show LTp (m79.1 218) (m79.2 17) (m.1 215) by rewrite [(show (m79.1 218) = ((m13.1 218) + 1) from (fr1 Fm79 218 rfl)), (show (m79.2 17) = (upI (m13.2 17) (m13.1 218) kn) from (fr2 Fm79 17 rfl))]; first | exact hEM | exact LT_s hEM (by omega) rfl | (rw [show (m.1 218) = 0 by omega]; exact LT_0)) (show DSp (m79.1 218) (m79.2 17) by rewrite [(show (m79.1 218) = ((m13.1 218) + 1) from (fr1 Fm79 218 rfl)), (show (m79.2 17) = (upI (m13.2 17) (m13.1 218) kn) from (fr2 Fm79 17 rfl))]; first | exact hDS | exact DS_s hDS hNe | (intro i j a b c; omega)) (show 20 - (v12 + 1) < (n26 : Int) by omega)
              · skip
                refine T_ld 60 (.ref 178) rfl (fun _ => rfl) ?_
                refine K_gf 63 (.ref 12) rfl rfl kd_178 rfl rfl rfl ?_
                refine K_gf 66 (.ref 20) rfl rfl kd_12 rfl rfl rfl ?_
                refine T_ld 68 (.int (i32 v62)) rfl (fun _ => rfl) ?_
                refine K_iald 69 17 (m13.2 17) rfl rfl rfl (by omega) (show v62 < (12 : Int) by omega) (show (m63.2 17) = (m13.2 17) from ((fr2 Fm63 17 rfl).trans (fr2 Fm52 17 rfl))) ?_
                have e86 : 0 ≤ (m13.2 17) v62 ∧ (m13.2 17) v62 ≤ 11 := (Tm13.2.1 17) v62
                refine T_ld 71 (.int (i32 kn)) rfl (fun _ => rfl) ?_
                refine T_icmp 84 74 rfl rfl rfl (r32 (by omega) (by omega)) (r32 (by omega) (by omega)) (fun (h87 : (m13.2 17) v62 ≠ kn) => ?_) (fun (h87 : ¬ ((m13.2 17) v62 ≠ kn)) => ?_)
                · skip
                  refine T_iinc 87 [(5, .int (i32 (v62 + 1))), (0, .ref 178), (2, .int (i32 v12)), (3, .int (i32 (m13.1 207))), (4, .int (i32 kn))] rfl rfl (by decide) rfl rfl ?_
                  refine T_goto 47 rfl (fun _ => rfl) ?_
                  refine Tm_lv (a := [(0, .ref 178), (2, .int (i32 v12)), (3, .int (i32 (m13.1 207))), (4, .int (i32 kn)), (5, .int (i32 (v62 + 1)))]) rfl rfl ⟨rfl, rfl, rfl, rfl, rfl, trivial⟩ ?_
                  exact ih73 (v62 + 1) (mO m63 [] []) (r32 (by omega) (by omega)) Tm63 (fr_m (fr_s Fm63 (fr_m fr_0 rfl rfl) rfl rfl) rfl rfl) (show 0 ≤ (v62 + 1) by omega) (show 0 ≤ (v62 + 1) ∧ (v62 + 1) ≤ 12 by omega) (show (v62 + 1) ≤ (m13.1 218) by omega) (show ∀ j, 0 ≤ j → j < (v62 + 1) → (m13.2 17) j ≠ kn by first | (intro j a b; omega) | (intro j a b; by_cases e : j = v62; (rw [e]; assumption); (exact hNl j a (by omega)))) (show 20 - (v62 + 1) < (n72 : Int) by omega)
                · skip
                  refine T_ld 75 (.ref 178) rfl (fun _ => rfl) ?_
                  refine K_gf 78 (.ref 6) rfl rfl kd_178 rfl rfl rfl ?_
                  refine T_ld 80 (.int (i32 8)) rfl (fun _ => rfl) ?_
                  refine T_ld 81 (.int (i32 (m13.1 207))) rfl (fun _ => rfl) ?_
                  refine T_callx 84 51 [.ref 6, .int (i32 8), .int (i32 (m13.1 207))] [] rfl (fun _ => rfl) rfl rfl (c_tx_fail w (mO m63 [] []) c N D (by omega) Tm63 8 (m13.1 207) ⟨by decide, by decide⟩ (r32 (by omega) (by omega)) (show 1 ≤ (8 : Int) ∧ (8 : Int) ≤ 8 by omega) (show 0 ≤ (m13.1 207) ∧ (m13.1 207) ≤ 4001 by omega)) (fun rr88 k89 => ?_)
                  rcases k89 with ⟨m90, Tm90, Fm90, h91, rfl⟩ | ⟨xx94, m92, hx93, Tm92, Fm92, rfl⟩
                  rotate_left
                  · skip
                    refine Or.inr ⟨_, _, _, _, rfl, ?_⟩
                    exact Or.inr ⟨xx94, (mO m92 [] []), (hx93), Tm92, (fr_m (fr_s Fm92 (fr_m (fr_s Fm63 (fr_m (fr_s Fm52 (fr_m (fr_s Fm13 (fr_m (fr_s Fm3 (fr_m fr_0 rfl rfl) rfl rfl) rfl rfl) rfl rfl) rfl rfl) rfl rfl) rfl rfl) rfl rfl) rfl rfl) rfl rfl) rfl rfl), rfl⟩
                  exact h91.elim
          refine Tm_lv (a := [(0, .ref 178), (2, .int (i32 v12)), (3, .int (i32 (m13.1 207))), (4, .int (i32 kn)), (5, .int (i32 0))]) rfl rfl ⟨rfl, rfl, rfl, rfl, rfl, trivial⟩ ?_
          exact L47_64 ((20 - (0 : Int) : Int) + 1).toNat 0 (mO m52 [] []) ⟨by decide, by decide⟩ Tm52 (fr_m fr_0 rfl rfl) (show 0 ≤ (0 : Int) by omega) (show 0 ≤ (0 : Int) ∧ (0 : Int) ≤ 12 by omega) (show (0 : Int) ≤ (m13.1 218) by omega) (show ∀ j, 0 ≤ j → j < (0 : Int) → (m13.2 17) j ≠ kn by first | (intro j a b; omega) | (intro j a b; by_cases e : j = v62; (rw [e]; assumption); (exact hNl j a (by omega)))) (show 20 - (0 : Int) < ((((20 - (0 : Int) : Int) + 1).toNat : Nat) : Int) by omega)
  refine Tm_lv (a := [(0, .ref 178), (1, .int (i32 1)), (2, .int (i32 0))]) rfl rfl ⟨rfl, rfl, rfl, trivial⟩ ?_
  exact L14_14 ((20 - (0 : Int) : Int) + 1).toNat 1 0 (mO m3 [] []) ⟨by decide, by decide⟩ ⟨by decide, by decide⟩ Tm3 (fr_m fr_0 rfl rfl) (show 0 ≤ (1 : Int) by omega) (show (1 : Int) ≤ 1 by omega) (show 0 ≤ (0 : Int) by omega) (show (1 : Int) = 0 ∨ (1 : Int) = 1 by omega) (show 0 ≤ (0 : Int) ∧ (0 : Int) ≤ 13 by omega) (show LTp (m3.1 218) (m3.2 17) (m.1 215) by rewrite [(show (m3.1 218) = (m.1 218) from (fr1 Fm3 218 rfl)), (show (m3.2 17) = (m.2 17) from (fr2 Fm3 17 rfl))]; first | exact hEM | exact LT_s hEM (by omega) rfl | (rw [show (m.1 218) = 0 by omega]; exact LT_0)) (show DSp (m3.1 218) (m3.2 17) by rewrite [(show (m3.1 218) = (m.1 218) from (fr1 Fm3 218 rfl)), (show (m3.2 17) = (m.2 17) from (fr2 Fm3 17 rfl))]; first | exact hDS | exact DS_s hDS hNe | (intro i j a b c; omega)) (show 20 - (0 : Int) < ((((20 - (0 : Int) : Int) + 1).toNat : Nat) : Int) by omega)
def fF_rd_close : List Nat := [211, 212]
def fA_rd_close : List Nat := [38]
def Q_rd_close (m : mR) (c : Nat → Option am_C) (N : Nat) : ag_Re af_T → Prop := fun R => (∃ (M : mR), KTy M ∧ fr fF_rd_close fA_rd_close m M ∧ R = (.inl (none), (khp M c, N), 0, 0)) ∨ (∃ (x : Nat) (M : mR), (x = 0) ∧ (KTy M) ∧ (fr fF_rd_close fA_rd_close m M) ∧ R = (.inr x, (khp M c, N), 1, 6))
set_option maxHeartbeats 3000000 in
theorem c_rd_close (w : wX) (m : mR) (c : Nat → Option am_C) (N D : Nat) (hD : 7 ≤ D) (hT : KTy m) : TC w D 144 [.ref 178] (khp m c, N) (Q_rd_close m c N) := by
  obtain ⟨D, rfl⟩ : ∃ k, D = k + 1 := ⟨D - 1, by omega⟩
  have f206 : (-1) ≤ m.1 206 ∧ m.1 206 ≤ 65535 := hT.1 206
  refine Tc_of rfl ?_
  rw [show (khp m c, N) = (khp (mO m [] []) c, N) from by rw [mO_nil m]]
  show TT w D pm_144 (0, [(0, .ref 178)], [], (khp (mO m [] []) c, N), 0, 0) (Q_rd_close m c N)
  refine T_ld 1 (.ref 178) rfl (fun _ => rfl) ?_
  refine K_gf 4 (.ref 6) rfl rfl kd_178 rfl rfl rfl ?_
  refine K_gf 7 (.int (i32 (m.1 206))) rfl rfl kd_6 rfl rfl rfl ?_
  refine T_ld 10 (.int (i32 258)) rfl (fun _ => rfl) ?_
  refine T_icmp 20 13 rfl rfl rfl (r32 (by omega) (by omega)) ⟨by decide, by decide⟩ (fun (h1 : (m.1 206) = 258) => ?_) (fun (h1 : ¬ ((m.1 206) = 258)) => ?_)
  · skip
    refine T_ld 21 (.ref 178) rfl (fun _ => rfl) ?_
    refine K_gf 24 (.ref 31) rfl rfl kd_178 rfl rfl rfl ?_
    refine T_callx 27 145 [.ref 31] [] rfl (fun _ => rfl) rfl rfl (c_ss_missing w (mO m [] []) c N D (by omega) hT ) (fun rr2 k3 => ?_)
    obtain ⟨x4, g5, rfl⟩ := k3
    refine Or.inl ⟨_, _, _, _, rfl, ?_⟩
    refine T_ns (st' := [.int (i32 x4)]) rfl ?_
    obtain ⟨g5a, g5b⟩ := g5
    refine T_sto 28 [(1, .int (i32 x4)), (0, .ref 178)] rfl (fun _ => rfl) ?_
    refine T_ld 29 (.int (i32 x4)) rfl (fun _ => rfl) ?_
    refine T_ld 30 (.int (i32 (-1))) rfl (fun _ => rfl) ?_
    refine T_icmp 43 33 rfl rfl rfl (r32 (by omega) (by omega)) ⟨by decide, by decide⟩ (fun (h6 : x4 = (-1)) => ?_) (fun (h6 : ¬ (x4 = (-1))) => ?_)
    · skip
      refine T_ld 44 (.ref 178) rfl (fun _ => rfl) ?_
      refine K_gf 47 (.ref 31) rfl rfl kd_178 rfl rfl rfl ?_
      refine T_callx 50 146 [.ref 31] [] rfl (fun _ => rfl) rfl rfl (c_ss_circling w (mO m [] []) c N D (by omega) hT ) (fun rr7 k8 => ?_)
      obtain ⟨m9, x10, Tm9, Fm9, g11, rfl⟩ := k8
      refine Or.inl ⟨_, _, _, _, rfl, ?_⟩
      refine K_nb (st' := [.int (i32 x10)]) rfl ?_
      obtain ⟨g11a, g11b⟩ := g11
      refine T_sto 51 [(2, .int (i32 x10)), (1, .int (i32 x4)), (0, .ref 178)] rfl (fun _ => rfl) ?_
      refine T_ld 52 (.int (i32 x10)) rfl (fun _ => rfl) ?_
      refine T_ld 53 (.int (i32 (-1))) rfl (fun _ => rfl) ?_
      refine T_icmp 66 56 rfl rfl rfl (r32 (by omega) (by omega)) ⟨by decide, by decide⟩ (fun (h12 : x10 = (-1)) => ?_) (fun (h12 : ¬ (x10 = (-1))) => ?_)
      · skip
        refine T_ret rfl (fun _ => rfl) ?_
        exact Or.inl ⟨(mO m9 [] []), Tm9, (fr_m (fr_s Fm9 (fr_m fr_0 rfl rfl) rfl rfl) rfl rfl), rfl⟩
      · skip
        refine T_ld 57 (.ref 178) rfl (fun _ => rfl) ?_
        refine K_gf 60 (.ref 6) rfl rfl kd_178 rfl rfl rfl ?_
        refine T_ld 62 (.int (i32 8)) rfl (fun _ => rfl) ?_
        refine T_ld 63 (.int (i32 x10)) rfl (fun _ => rfl) ?_
        refine T_callx 66 51 [.ref 6, .int (i32 8), .int (i32 x10)] [] rfl (fun _ => rfl) rfl rfl (c_tx_fail w (mO m9 [] []) c N D (by omega) Tm9 8 x10 ⟨by decide, by decide⟩ (r32 (by omega) (by omega)) (show 1 ≤ (8 : Int) ∧ (8 : Int) ≤ 8 by omega) (show 0 ≤ x10 ∧ x10 ≤ 4001 by omega)) (fun rr13 k14 => ?_)
        rcases k14 with ⟨m15, Tm15, Fm15, h16, rfl⟩ | ⟨xx19, m17, hx18, Tm17, Fm17, rfl⟩
        rotate_left
        · skip
          refine Or.inr ⟨_, _, _, _, rfl, ?_⟩
          exact Or.inr ⟨xx19, (mO m17 [] []), (hx18), Tm17, (fr_m (fr_s Fm17 (fr_m (fr_s Fm9 (fr_m fr_0 rfl rfl) rfl rfl) rfl rfl) rfl rfl) rfl rfl), rfl⟩
        exact h16.elim
    · skip
      refine T_ld 34 (.ref 178) rfl (fun _ => rfl) ?_
      refine K_gf 37 (.ref 6) rfl rfl kd_178 rfl rfl rfl ?_
      refine T_ld 39 (.int (i32 6)) rfl (fun _ => rfl) ?_
      refine T_ld 40 (.int (i32 x4)) rfl (fun _ => rfl) ?_
      refine T_callx 43 51 [.ref 6, .int (i32 6), .int (i32 x4)] [] rfl (fun _ => rfl) rfl rfl (c_tx_fail w (mO m [] []) c N D (by omega) hT 6 x4 ⟨by decide, by decide⟩ (r32 (by omega) (by omega)) (show 1 ≤ (6 : Int) ∧ (6 : Int) ≤ 8 by omega) (show 0 ≤ x4 ∧ x4 ≤ 4001 by omega)) (fun rr20 k21 => ?_)
      rcases k21 with ⟨m22, Tm22, Fm22, h23, rfl⟩ | ⟨xx26, m24, hx25, Tm24, Fm24, rfl⟩
      rotate_left
      · skip
        refine Or.inr ⟨_, _, _, _, rfl, ?_⟩
        exact Or.inr ⟨xx26, (mO m24 [] []), (hx25), Tm24, (fr_m (fr_s Fm24 (fr_m fr_0 rfl rfl) rfl rfl) rfl rfl), rfl⟩
      exact h23.elim
  · skip
    refine T_ld 14 (.ref 178) rfl (fun _ => rfl) ?_
    refine K_gf 17 (.ref 6) rfl rfl kd_178 rfl rfl rfl ?_
    refine T_callx 20 76 [.ref 6] [] rfl (fun _ => rfl) rfl rfl (c_tx_refuse w (mO m [] []) c N D (by omega) hT ) (fun rr27 k28 => ?_)
    rcases k28 with ⟨m29, Tm29, Fm29, h30, rfl⟩ | ⟨xx33, m31, hx32, Tm31, Fm31, rfl⟩
    rotate_left
    · skip
      refine Or.inr ⟨_, _, _, _, rfl, ?_⟩
      exact Or.inr ⟨xx33, (mO m31 [] []), (hx32), Tm31, (fr_m (fr_s Fm31 (fr_m fr_0 rfl rfl) rfl rfl) rfl rfl), rfl⟩
    exact h30.elim
def fF_rd_table : List Nat := [203, 205, 206, 207, 208, 209, 210, 211, 212, 213, 219, 220, 228, 229, 230, 231]
def fA_rd_table : List Nat := [6, 7, 8, 9, 18, 19, 20, 21, 22, 23, 24, 68, 69, 70, 72, 73, 74, 75, 76, 77, 78, 79, 80, 81, 82, 83, 84]
def Q_rd_table (m : mR) (c : Nat → Option am_C) (N : Nat) : ag_Re af_T → Prop := fun R => (∃ (M : mR), KTy M ∧ fr fF_rd_table fA_rd_table m M ∧ (KPp (M.1 203) (M.2 8) (M.2 9) (m.1 214) (m.1 215) (m.1 216) (m.1 217) (m.1 221) (m.1 223) (M.1 219)) ∧ (NKp (M.2 18) (M.2 19)) ∧ (TLp (M.1 219) (M.2 73) (M.2 83) (m.1 223)) ∧ (LTp (M.1 219) (M.2 74) (m.1 223)) ∧ (ZHp (M.1 219) (M.2 78)) ∧ R = (.inl (none), (khp M c, N), 0, 0)) ∨ (∃ (x : Nat) (M : mR), (x = 0) ∧ (KTy M) ∧ (fr fF_rd_table fA_rd_table m M) ∧ (NKp (M.2 18) (M.2 19)) ∧ R = (.inr x, (khp M c, N), 1, 6))
set_option maxHeartbeats 3000000 in
theorem c_rd_table (w : wX) (m : mR) (c : Nat → Option am_C) (N D : Nat) (hD : 12 ≤ D) (hT : KTy m) (pKP : KPp (m.1 203) (m.2 8) (m.2 9) (m.1 214) (m.1 215) (m.1 216) (m.1 217) (m.1 221) (m.1 223) (m.1 219)) (hNK : NKp (m.2 18) (m.2 19)) (hTL : TLp (m.1 219) (m.2 73) (m.2 83) (m.1 223)) (hTD : LTp (m.1 219) (m.2 74) (m.1 223)) (hZH : ZHp (m.1 219) (m.2 78)) : TC w D 127 [.ref 178] (khp m c, N) (Q_rd_table m c N) := by
  obtain ⟨D, rfl⟩ : ∃ k, D = k + 1 := ⟨D - 1, by omega⟩
  have f203 : 0 ≤ m.1 203 ∧ m.1 203 ≤ 90 := hT.1 203
  have f206 : (-1) ≤ m.1 206 ∧ m.1 206 ≤ 65535 := hT.1 206
  have f213 : 0 ≤ m.1 213 ∧ m.1 213 ≤ 1 := hT.1 213
  have f219 : 0 ≤ m.1 219 ∧ m.1 219 ≤ 8 := hT.1 219
  have f214 : 0 ≤ m.1 214 ∧ m.1 214 ≤ 12 := hT.1 214
  have f215 : 0 ≤ m.1 215 ∧ m.1 215 ≤ 12 := hT.1 215
  have f216 : 0 ≤ m.1 216 ∧ m.1 216 ≤ 16 := hT.1 216
  have f217 : 0 ≤ m.1 217 ∧ m.1 217 ≤ 8 := hT.1 217
  have f221 : 0 ≤ m.1 221 ∧ m.1 221 ≤ 16 := hT.1 221
  have f223 : 0 ≤ m.1 223 ∧ m.1 223 ≤ 16 := hT.1 223
  refine Tc_of rfl ?_
  rw [show (khp m c, N) = (khp (mO m [] []) c, N) from by rw [mO_nil m]]
  show TT w D pm_127 (0, [(0, .ref 178)], [], (khp (mO m [] []) c, N), 0, 0) (Q_rd_table m c N)
  refine T_ld 1 (.ref 178) rfl (fun _ => rfl) ?_
  refine K_gf 4 (.ref 6) rfl rfl kd_178 rfl rfl rfl ?_
  refine T_callx 7 50 [.ref 6] [] rfl (fun _ => rfl) rfl rfl (c_tx_advance w (mO m [] []) c N D (by omega) hT ) (fun rr1 k2 => ?_)
  rcases k2 with ⟨m3, Tm3, Fm3, h4, rfl⟩ | ⟨xx7, m5, hx6, Tm5, Fm5, rfl⟩
  rotate_left
  · skip
    refine Or.inr ⟨_, _, _, _, rfl, ?_⟩
    exact Or.inr ⟨xx7, (mO m5 [] []), (hx6), Tm5, (fr_m (fr_s Fm5 (fr_m fr_0 rfl rfl) rfl rfl) rfl rfl), (show NKp (m5.2 18) (m5.2 19) by rewrite [(show (m5.2 18) = (m.2 18) from (fr2 Fm5 18 rfl)), (show (m5.2 19) = (m.2 19) from (fr2 Fm5 19 rfl))]; exact hNK), rfl⟩
  refine Or.inl ⟨_, _, _, _, rfl, ?_⟩
  refine K_nb (st' := []) rfl ?_
  have g8 : (-1) ≤ m3.1 206 ∧ m3.1 206 ≤ 65535 := Tm3.1 206
  replace h4 : (m.1 213) = 0 := h4
  refine T_ld 8 (.ref 178) rfl (fun _ => rfl) ?_
  refine K_gf 11 (.ref 12) rfl rfl kd_178 rfl rfl rfl ?_
  refine K_gf 14 (.int (i32 (m.1 219))) rfl rfl kd_12 rfl (kval_c2 (k := 219) (F := fun x => .int (i32 x)) rfl (show (m3.1 219) = (m.1 219) from (fr1 Fm3 219 rfl))) rfl ?_
  refine T_sto 15 [(1, .int (i32 (m.1 219))), (0, .ref 178)] rfl (fun _ => rfl) ?_
  refine T_ld 16 (.ref 178) rfl (fun _ => rfl) ?_
  refine K_gf 19 (.ref 6) rfl rfl kd_178 rfl rfl rfl ?_
  refine T_ld 22 (.int (i32 310)) rfl (fun _ => rfl) ?_
  refine T_ld 23 (.int (i32 (m.1 219))) rfl (fun _ => rfl) ?_
  refine T_ld 25 (.int (i32 8)) rfl (fun _ => rfl) ?_
  refine T_callx 28 75 [.ref 6, .int (i32 310), .int (i32 (m.1 219)), .int (i32 8)] [] rfl (fun _ => rfl) rfl rfl (c_tx_makeNew w (mO m3 [] []) c N D (by omega) Tm3 310 (m.1 219) 8 ⟨by decide, by decide⟩ (r32 (by omega) (by omega)) ⟨by decide, by decide⟩ (show 0 ≤ (310 : Int) ∧ (310 : Int) ≤ 310 by omega) (show 0 ≤ (m.1 219) ∧ (8 : Int) ≤ 16 by omega)) (fun rr9 k10 => ?_)
  rcases k10 with ⟨m11, Tm11, Fm11, h12, h13, h14, rfl⟩ | ⟨xx17, m15, hx16, Tm15, Fm15, rfl⟩
  rotate_left
  · skip
    refine Or.inr ⟨_, _, _, _, rfl, ?_⟩
    exact Or.inr ⟨xx17, (mO m15 [] []), (hx16), Tm15, (fr_m (fr_s Fm15 (fr_m (fr_s Fm3 (fr_m fr_0 rfl rfl) rfl rfl) rfl rfl) rfl rfl) rfl rfl), (show NKp (m15.2 18) (m15.2 19) by rewrite [(show (m15.2 18) = (m.2 18) from ((fr2 Fm15 18 rfl).trans (fr2 Fm3 18 rfl))), (show (m15.2 19) = (m.2 19) from ((fr2 Fm15 19 rfl).trans (fr2 Fm3 19 rfl)))]; exact hNK), rfl⟩
  refine Or.inl ⟨_, _, _, _, rfl, ?_⟩
  refine K_nb (st' := []) rfl ?_
  have g18 : 0 ≤ m11.1 203 ∧ m11.1 203 ≤ 90 := Tm11.1 203
  have g19 : (-1) ≤ m11.1 206 ∧ m11.1 206 ≤ 65535 := Tm11.1 206
  replace h12 : (m.1 219) < (8 : Int) := h12
  replace h13 : KMk (m3.1 203) (m11.1 203) (m3.2 8) (m11.2 8) (m3.2 9) (m11.2 9) (310 : Int) (m.1 219) := h13
  rewrite [(show (m3.1 203) = (m.1 203) from (fr1 Fm3 203 rfl)), (show (m3.2 8) = (m.2 8) from (fr2 Fm3 8 rfl)), (show (m3.2 9) = (m.2 9) from (fr2 Fm3 9 rfl))] at h13
  have hMk := h13
  replace h14 : (m3.1 213) = 0 := h14
  rewrite [(show (m3.1 213) = (m.1 213) from (fr1 Fm3 213 rfl))] at h14
  refine T_ld 29 (.ref 178) rfl (fun _ => rfl) ?_
  refine K_gf 32 (.ref 12) rfl rfl kd_178 rfl rfl rfl ?_
  refine T_ld 33 (.ref 12) rfl (fun _ => rfl) ?_
  refine K_gf 36 (.int (i32 (m.1 219))) rfl rfl kd_12 rfl (kval_c2 (k := 219) (F := fun x => .int (i32 x)) rfl (show (m11.1 219) = (m.1 219) from ((fr1 Fm11 219 rfl).trans (fr1 Fm3 219 rfl)))) rfl ?_
  refine T_ld 37 (.int (i32 1)) rfl (fun _ => rfl) ?_
  refine T_iadd 38 rfl rfl ?_
  refine K_pf (l' := [(219, (m.1 219) + 1)]) 41 ((m.1 219) + 1) rfl rfl kd_12 rfl rfl rfl rfl rfl rfl rfl ?_
  have g20 : 0 ≤ (m.1 219) + 1 ∧ (m.1 219) + 1 ≤ 8 := ⟨by omega, by omega⟩
  have pKP : KPp (m11.1 203) (m11.2 8) (m11.2 9) (m.1 214) (m.1 215) (m.1 216) (m.1 217) (m.1 221) (m.1 223) ((m.1 219) + 1) := KPp_mk pKP hMk (by omega) (by omega) (by omega) (by omega) (by omega) (by omega) (by omega) (by omega)
  refine T_ld 42 (.ref 178) rfl (fun _ => rfl) ?_
  refine K_gf 45 (.ref 12) rfl rfl kd_178 rfl rfl rfl ?_
  refine K_gf 48 (.ref 21) rfl rfl kd_12 rfl rfl rfl ?_
  refine T_ld 49 (.int (i32 (m.1 219))) rfl (fun _ => rfl) ?_
  refine K_aatb 50 rfl (by omega) (by omega) rfl ?_
  refine T_sto 51 [(2, .ref (tbr (m.1 219))), (1, .int (i32 (m.1 219))), (0, .ref 178)] rfl (fun _ => rfl) ?_
  refine T_ld 52 (.ref (tbr (m.1 219))) rfl (fun _ => rfl) ?_
  refine T_callx 55 128 [.ref (tbr (m.1 219))] [] rfl (inv_vt (args := []) (khp_t0 _ (by omega) (by omega)) rfl rfl rfl) rfl rfl (c_tb_clear w (mO m11 [(219, (m.1 219) + 1)] []) c N D (by omega) (KTy_mO Tm11 rfl rfl ⟨g20, trivial⟩ trivial) (m.1 219) (r32 (by omega) (by omega)) (show 0 ≤ (m.1 219) ∧ (m.1 219) ≤ 7 by omega)) (fun rr21 k22 => ?_)
  obtain ⟨m23, Tm23, Fm23, h24, h25, h26, rfl⟩ := k22
  refine Or.inl ⟨_, _, _, _, rfl, ?_⟩
  refine K_nb (st' := []) rfl ?_
  replace h24 : (m23.2 73) = upI (m11.2 73) (m.1 219) 0 := h24
  rewrite [(show (m11.2 73) = (m.2 73) from ((fr2 Fm11 73 rfl).trans (fr2 Fm3 73 rfl)))] at h24
  have hLc := h24
  replace h25 : ∀ u, u ≠ (m.1 219) → (m23.2 78) u = (m11.2 78) u := h25
  rewrite [(show (m11.2 78) = (m.2 78) from ((fr2 Fm11 78 rfl).trans (fr2 Fm3 78 rfl)))] at h25
  have hCl := h25
  replace h26 : (m23.2 78) (m.1 219) = 0 ∧ (m23.2 72) (m.1 219) = 0 ∧ (m23.2 75) (m.1 219) = 1 := h26
  have hCm := h26
  have hTL : TLp ((m.1 219) + 1) (m23.2 73) (m.2 83) (m.1 223) := TL_cl hTL hLc (by omega)
  have hZH : ZHp ((m.1 219) + 1) (m23.2 78) := ZH_s hZH (by omega) hCl hCm.1
  refine T_ld 56 (.ref 178) rfl (fun _ => rfl) ?_
  refine K_gf 59 (.ref 6) rfl rfl kd_178 rfl rfl rfl ?_
  refine T_ld 61 (.int (i32 123)) rfl (fun _ => rfl) ?_
  refine T_callx 64 78 [.ref 6, .int (i32 123)] [] rfl (fun _ => rfl) rfl rfl (c_tx_expect w (mO m23 [] []) c N D (by omega) Tm23 123 ⟨by decide, by decide⟩) (fun rr27 k28 => ?_)
  rcases k28 with ⟨m29, Tm29, Fm29, h30, h31, rfl⟩ | ⟨xx34, m32, hx33, Tm32, Fm32, rfl⟩
  rotate_left
  · skip
    refine Or.inr ⟨_, _, _, _, rfl, ?_⟩
    exact Or.inr ⟨xx34, (mO m32 [] []), (hx33), Tm32, (fr_m (fr_s Fm32 (fr_m (fr_s Fm23 (fr_m (fr_s Fm11 (fr_m (fr_s Fm3 (fr_m fr_0 rfl rfl) rfl rfl) rfl rfl) rfl rfl) rfl rfl) rfl rfl) rfl rfl) rfl rfl) rfl rfl), (show NKp (m32.2 18) (m32.2 19) by rewrite [(show (m32.2 18) = (m.2 18) from ((fr2 Fm32 18 rfl).trans ((fr2 Fm23 18 rfl).trans ((fr2 Fm11 18 rfl).trans (fr2 Fm3 18 rfl))))), (show (m32.2 19) = (m.2 19) from ((fr2 Fm32 19 rfl).trans ((fr2 Fm23 19 rfl).trans ((fr2 Fm11 19 rfl).trans (fr2 Fm3 19 rfl)))))]; exact hNK), rfl⟩
  refine Or.inl ⟨_, _, _, _, rfl, ?_⟩
  refine K_nb (st' := []) rfl ?_
  have g35 : (-1) ≤ m29.1 206 ∧ m29.1 206 ≤ 65535 := Tm29.1 206
  replace h30 : (m23.1 206) = (123 : Int) := h30
  rewrite [(show (m23.1 206) = (m11.1 206) from (fr1 Fm23 206 rfl))] at h30
  replace h31 : (m23.1 213) = 0 := h31
  rewrite [(show (m23.1 213) = (m.1 213) from ((fr1 Fm23 213 rfl).trans ((fr1 Fm11 213 rfl).trans (fr1 Fm3 213 rfl))))] at h31
  refine T_ld 65 (.int (i32 0)) rfl (fun _ => rfl) ?_
  refine T_sto 66 [(3, .int (i32 0)), (2, .ref (tbr (m.1 219))), (1, .int (i32 (m.1 219))), (0, .ref 178)] rfl (fun _ => rfl) ?_
  have L66_38 : ∀ (n45 : Nat) (v36 : Int) (m37 : mR), (R32 v36) → KTy m37 → fr [205, 206, 207, 208, 209, 210, 211, 212, 213, 220, 228, 229, 230, 231] [18, 19, 20, 21, 22, 23, 24, 68, 69, 70, 72, 79, 80, 81, 82] (mO m29 [] []) m37 → (0 ≤ v36) → (NKp (m37.2 18) (m37.2 19)) → (0 ≤ v36 ∧ v36 ≤ 5) → 12 - v36 < (n45 : Int) → TT w D pm_127 (66, [(0, .ref 178), (2, .ref (tbr (m.1 219))), (3, .int (i32 v36))], [], (khp (mO m37 [] []) c, N), 0, 0) (Q_rd_table m c N) := by
    intro n45
    induction n45 with
    | zero =>
      intro v36 m37 q42 Tm37 Fm37 ic39 ic40 ic41 hmu
      obtain ⟨q42a, q42b⟩ := id q42
      have q43_206 : (-1) ≤ m37.1 206 ∧ m37.1 206 ≤ 65535 := Tm37.1 206
      have q43_213 : 0 ≤ m37.1 213 ∧ m37.1 213 ≤ 1 := Tm37.1 213
      have hNK := ic40
      exfalso
      omega
    | succ n45 ih =>
      intro v36 m37 q42 Tm37 Fm37 ic39 ic40 ic41 hmu
      obtain ⟨q42a, q42b⟩ := id q42
      have q43_206 : (-1) ≤ m37.1 206 ∧ m37.1 206 ≤ 65535 := Tm37.1 206
      have q43_213 : 0 ≤ m37.1 213 ∧ m37.1 213 ≤ 1 := Tm37.1 213
      have hNK := ic40
      have ih46 := ih
      refine T_ld 67 (.int (i32 v36)) rfl (fun _ => rfl) ?_
      refine T_ld 68 (.int (i32 4)) rfl (fun _ => rfl) ?_
      refine T_icmp 100 71 rfl rfl rfl (r32 (by omega) (by omega)) ⟨by decide, by decide⟩ (fun (h47 : (4 : Int) < v36) => ?_) (fun (h47 : ¬ ((4 : Int) < v36)) => ?_)
      · skip
        refine T_ld 101 (.ref 178) rfl (fun _ => rfl) ?_
        refine K_gf 104 (.ref 6) rfl rfl kd_178 rfl rfl rfl ?_
        refine T_ld 107 (.int (i32 315)) rfl (fun _ => rfl) ?_
        refine T_callx 110 78 [.ref 6, .int (i32 315)] [] rfl (fun _ => rfl) rfl rfl (c_tx_expect w (mO m37 [] []) c N D (by omega) Tm37 315 ⟨by decide, by decide⟩) (fun rr48 k49 => ?_)
        rcases k49 with ⟨m50, Tm50, Fm50, h51, h52, rfl⟩ | ⟨xx55, m53, hx54, Tm53, Fm53, rfl⟩
        rotate_left
        · skip
          refine Or.inr ⟨_, _, _, _, rfl, ?_⟩
          exact Or.inr ⟨xx55, (mO m53 [] []), (hx54), Tm53, (fr_m (fr_s Fm53 (fr_m (fr_s Fm37 (fr_m (fr_s Fm29 (fr_m (fr_s Fm23 (fr_m (fr_s Fm11 (fr_m (fr_s Fm3 (fr_m fr_0 rfl rfl) rfl rfl) rfl rfl) rfl rfl) rfl rfl) rfl rfl) rfl rfl) rfl rfl) rfl rfl) rfl rfl) rfl rfl) rfl rfl) rfl rfl), (show NKp (m53.2 18) (m53.2 19) by rewrite [(show (m53.2 18) = (m37.2 18) from (fr2 Fm53 18 rfl)), (show (m53.2 19) = (m37.2 19) from (fr2 Fm53 19 rfl))]; exact hNK), rfl⟩
        refine Or.inl ⟨_, _, _, _, rfl, ?_⟩
        refine K_nb (st' := []) rfl ?_
        have g56 : (-1) ≤ m50.1 206 ∧ m50.1 206 ≤ 65535 := Tm50.1 206
        replace h51 : (m37.1 206) = (315 : Int) := h51
        replace h52 : (m37.1 213) = 0 := h52
        refine T_ld 111 (.int (i32 1)) rfl (fun _ => rfl) ?_
        refine T_sto 112 [(3, .int (i32 1)), (0, .ref 178), (2, .ref (tbr (m.1 219)))] rfl (fun _ => rfl) ?_
        refine T_ld 113 (.int (i32 0)) rfl (fun _ => rfl) ?_
        refine T_sto 115 [(4, .int (i32 0)), (3, .int (i32 1)), (0, .ref 178), (2, .ref (tbr (m.1 219)))] rfl (fun _ => rfl) ?_
        have L115_60 : ∀ (n72 : Nat) (v57 : Int) (v58 : Int) (m59 : mR), (R32 v57) → (R32 v58) → KTy m59 → fr [205, 206, 207, 208, 209, 210, 211, 212] [73, 83] (mO m50 [] []) m59 → (0 ≤ v57) → (v57 ≤ 1) → (0 ≤ v58) → (v57 = 0 ∨ v57 = 1) → (0 ≤ v58 ∧ v58 ≤ 9) → ((m59.2 73) (m.1 219) = v58) → (TLp ((m.1 219) + 1) (m59.2 73) (m59.2 83) (m.1 223)) → 12 - v58 < (n72 : Int) → TT w D pm_127 (115, [(0, .ref 178), (2, .ref (tbr (m.1 219))), (3, .int (i32 v57)), (4, .int (i32 v58))], [], (khp (mO m59 [] []) c, N), 0, 0) (Q_rd_table m c N) := by
          intro n72
          induction n72 with
          | zero =>
            intro v57 v58 m59 q68 q69 Tm59 Fm59 ic61 ic62 ic63 ic64 ic65 ic66 ic67 hmu
            obtain ⟨q68a, q68b⟩ := id q68
            obtain ⟨q69a, q69b⟩ := id q69
            have q70_206 : (-1) ≤ m59.1 206 ∧ m59.1 206 ≤ 65535 := Tm59.1 206
            have hLk := ic66
            have hTL := ic67
            exfalso
            omega
          | succ n72 ih =>
            intro v57 v58 m59 q68 q69 Tm59 Fm59 ic61 ic62 ic63 ic64 ic65 ic66 ic67 hmu
            obtain ⟨q68a, q68b⟩ := id q68
            obtain ⟨q69a, q69b⟩ := id q69
            have q70_206 : (-1) ≤ m59.1 206 ∧ m59.1 206 ≤ 65535 := Tm59.1 206
            have hLk := ic66
            have hTL := ic67
            have ih73 := ih
            refine T_ld 117 (.int (i32 v58)) rfl (fun _ => rfl) ?_
            refine T_ld 119 (.int (i32 8)) rfl (fun _ => rfl) ?_
            refine T_icmp 144 122 rfl rfl rfl (r32 (by omega) (by omega)) ⟨by decide, by decide⟩ (fun (h74 : (8 : Int) < v58) => ?_) (fun (h74 : ¬ ((8 : Int) < v58)) => ?_)
            · skip
              refine T_ld 145 (.ref 178) rfl (fun _ => rfl) ?_
              refine K_gf 148 (.ref 6) rfl rfl kd_178 rfl rfl rfl ?_
              refine T_ld 150 (.int (i32 59)) rfl (fun _ => rfl) ?_
              refine T_callx 153 78 [.ref 6, .int (i32 59)] [] rfl (fun _ => rfl) rfl rfl (c_tx_expect w (mO m59 [] []) c N D (by omega) Tm59 59 ⟨by decide, by decide⟩) (fun rr75 k76 => ?_)
              rcases k76 with ⟨m77, Tm77, Fm77, h78, h79, rfl⟩ | ⟨xx82, m80, hx81, Tm80, Fm80, rfl⟩
              rotate_left
              · skip
                refine Or.inr ⟨_, _, _, _, rfl, ?_⟩
                exact Or.inr ⟨xx82, (mO m80 [] []), (hx81), Tm80, (fr_m (fr_s Fm80 (fr_m (fr_s Fm59 (fr_m (fr_s Fm50 (fr_m (fr_s Fm37 (fr_m (fr_s Fm29 (fr_m (fr_s Fm23 (fr_m (fr_s Fm11 (fr_m (fr_s Fm3 (fr_m fr_0 rfl rfl) rfl rfl) rfl rfl) rfl rfl) rfl rfl) rfl rfl) rfl rfl) rfl rfl) rfl rfl) rfl rfl) rfl rfl) rfl rfl) rfl rfl) rfl rfl) rfl rfl) rfl rfl) rfl rfl), (show NKp (m80.2 18) (m80.2 19) by rewrite [(show (m80.2 18) = (m37.2 18) from ((fr2 Fm80 18 rfl).trans ((fr2 Fm59 18 rfl).trans (fr2 Fm50 18 rfl)))), (show (m80.2 19) = (m37.2 19) from ((fr2 Fm80 19 rfl).trans ((fr2 Fm59 19 rfl).trans (fr2 Fm50 19 rfl))))]; exact hNK), rfl⟩
              refine Or.inl ⟨_, _, _, _, rfl, ?_⟩
              refine K_nb (st' := []) rfl ?_
              have g83 : (-1) ≤ m77.1 206 ∧ m77.1 206 ≤ 65535 := Tm77.1 206
              replace h78 : (m59.1 206) = (59 : Int) := h78
              replace h79 : (m59.1 213) = 0 := h79
              rewrite [(show (m59.1 213) = (m37.1 213) from ((fr1 Fm59 213 rfl).trans (fr1 Fm50 213 rfl)))] at h79
              refine T_ld 154 (.ref 178) rfl (fun _ => rfl) ?_
              refine K_gf 157 (.ref 6) rfl rfl kd_178 rfl rfl rfl ?_
              refine T_ld 160 (.int (i32 308)) rfl (fun _ => rfl) ?_
              refine T_callx 163 78 [.ref 6, .int (i32 308)] [] rfl (fun _ => rfl) rfl rfl (c_tx_expect w (mO m77 [] []) c N D (by omega) Tm77 308 ⟨by decide, by decide⟩) (fun rr84 k85 => ?_)
              rcases k85 with ⟨m86, Tm86, Fm86, h87, h88, rfl⟩ | ⟨xx91, m89, hx90, Tm89, Fm89, rfl⟩
              rotate_left
              · skip
                refine Or.inr ⟨_, _, _, _, rfl, ?_⟩
                exact Or.inr ⟨xx91, (mO m89 [] []), (hx90), Tm89, (fr_m (fr_s Fm89 (fr_m (fr_s Fm77 (fr_m (fr_s Fm59 (fr_m (fr_s Fm50 (fr_m (fr_s Fm37 (fr_m (fr_s Fm29 (fr_m (fr_s Fm23 (fr_m (fr_s Fm11 (fr_m (fr_s Fm3 (fr_m fr_0 rfl rfl) rfl rfl) rfl rfl) rfl rfl) rfl rfl) rfl rfl) rfl rfl) rfl rfl) rfl rfl) rfl rfl) rfl rfl) rfl rfl) rfl rfl) rfl rfl) rfl rfl) rfl rfl) rfl rfl) rfl rfl) rfl rfl), (show NKp (m89.2 18) (m89.2 19) by rewrite [(show (m89.2 18) = (m37.2 18) from ((fr2 Fm89 18 rfl).trans ((fr2 Fm77 18 rfl).trans ((fr2 Fm59 18 rfl).trans (fr2 Fm50 18 rfl))))), (show (m89.2 19) = (m37.2 19) from ((fr2 Fm89 19 rfl).trans ((fr2 Fm77 19 rfl).trans ((fr2 Fm59 19 rfl).trans (fr2 Fm50 19 rfl)))))]; exact hNK), rfl⟩
              refine Or.inl ⟨_, _, _, _, rfl, ?_⟩
              refine K_nb (st' := []) rfl ?_
              have g92 : (-1) ≤ m86.1 206 ∧ m86.1 206 ≤ 65535 := Tm86.1 206
              replace h87 : (m77.1 206) = (308 : Int) := h87
              replace h88 : (m77.1 213) = 0 := h88
              rewrite [(show (m77.1 213) = (m37.1 213) from ((fr1 Fm77 213 rfl).trans ((fr1 Fm59 213 rfl).trans (fr1 Fm50 213 rfl))))] at h88
              refine T_ld 164 (.ref 178) rfl (fun _ => rfl) ?_
              refine T_ld 165 (.ref (tbr (m.1 219))) rfl (fun _ => rfl) ?_
              refine T_callx 168 133 [.ref 178, .ref (tbr (m.1 219))] [] rfl (fun _ => rfl) rfl rfl (c_rd_defaultLine w (mO m86 [] []) c N D (by omega) Tm86 (m.1 219) (r32 (by omega) (by omega)) (show KPp (m86.1 203) (m86.2 8) (m86.2 9) (m86.1 214) (m86.1 215) (m86.1 216) (m86.1 217) (m86.1 221) (m86.1 223) (m86.1 219) by rewrite [(show (m86.1 203) = (m11.1 203) from ((fr1 Fm86 203 rfl).trans ((fr1 Fm77 203 rfl).trans ((fr1 Fm59 203 rfl).trans ((fr1 Fm50 203 rfl).trans ((fr1 Fm37 203 rfl).trans ((fr1 Fm29 203 rfl).trans (fr1 Fm23 203 rfl)))))))), (show (m86.2 8) = (m11.2 8) from ((fr2 Fm86 8 rfl).trans ((fr2 Fm77 8 rfl).trans ((fr2 Fm59 8 rfl).trans ((fr2 Fm50 8 rfl).trans ((fr2 Fm37 8 rfl).trans ((fr2 Fm29 8 rfl).trans (fr2 Fm23 8 rfl)))))))), (show (m86.2 9) = (m11.2 9) from ((fr2 Fm86 9 rfl).trans ((fr2 Fm77 9 rfl).trans ((fr2 Fm59 9 rfl).trans ((fr2 Fm50 9 rfl).trans ((fr2 Fm37 9 rfl).trans ((fr2 Fm29 9 rfl).trans (fr2 Fm23 9 rfl)))))))), (show (m86.1 214) = (m.1 214) from ((fr1 Fm86 214 rfl).trans ((fr1 Fm77 214 rfl).trans ((fr1 Fm59 214 rfl).trans ((fr1 Fm50 214 rfl).trans ((fr1 Fm37 214 rfl).trans ((fr1 Fm29 214 rfl).trans ((fr1 Fm23 214 rfl).trans ((fr1 Fm11 214 rfl).trans (fr1 Fm3 214 rfl)))))))))), (show (m86.1 215) = (m.1 215) from ((fr1 Fm86 215 rfl).trans ((fr1 Fm77 215 rfl).trans ((fr1 Fm59 215 rfl).trans ((fr1 Fm50 215 rfl).trans ((fr1 Fm37 215 rfl).trans ((fr1 Fm29 215 rfl).trans ((fr1 Fm23 215 rfl).trans ((fr1 Fm11 215 rfl).trans (fr1 Fm3 215 rfl)))))))))), (show (m86.1 216) = (m.1 216) from ((fr1 Fm86 216 rfl).trans ((fr1 Fm77 216 rfl).trans ((fr1 Fm59 216 rfl).trans ((fr1 Fm50 216 rfl).trans ((fr1 Fm37 216 rfl).trans ((fr1 Fm29 216 rfl).trans ((fr1 Fm23 216 rfl).trans ((fr1 Fm11 216 rfl).trans (fr1 Fm3 216 rfl)))))))))), (show (m86.1 217) = (m.1 217) from ((fr1 Fm86 217 rfl).trans ((fr1 Fm77 217 rfl).trans ((fr1 Fm59 217 rfl).trans ((fr1 Fm50 217 rfl).trans ((fr1 Fm37 217 rfl).trans ((fr1 Fm29 217 rfl).trans ((fr1 Fm23 217 rfl).trans ((fr1 Fm11 217 rfl).trans (fr1 Fm3 217 rfl)))))))))), (show (m86.1 221) = (m.1 221) from ((fr1 Fm86 221 rfl).trans ((fr1 Fm77 221 rfl).trans ((fr1 Fm59 221 rfl).trans ((fr1 Fm50 221 rfl).trans ((fr1 Fm37 221 rfl).trans ((fr1 Fm29 221 rfl).trans ((fr1 Fm23 221 rfl).trans ((fr1 Fm11 221 rfl).trans (fr1 Fm3 221 rfl)))))))))), (show (m86.1 223) = (m.1 223) from ((fr1 Fm86 223 rfl).trans ((fr1 Fm77 223 rfl).trans ((fr1 Fm59 223 rfl).trans ((fr1 Fm50 223 rfl).trans ((fr1 Fm37 223 rfl).trans ((fr1 Fm29 223 rfl).trans ((fr1 Fm23 223 rfl).trans ((fr1 Fm11 223 rfl).trans (fr1 Fm3 223 rfl)))))))))), (show (m86.1 219) = ((m.1 219) + 1) from ((fr1 Fm86 219 rfl).trans ((fr1 Fm77 219 rfl).trans ((fr1 Fm59 219 rfl).trans ((fr1 Fm50 219 rfl).trans ((fr1 Fm37 219 rfl).trans ((fr1 Fm29 219 rfl).trans (fr1 Fm23 219 rfl))))))))]; exact pKP) (show 0 ≤ (m.1 219) ∧ (m.1 219) ≤ 7 by omega) (show LTp (m.1 219) (m86.2 74) (m86.1 223) by rewrite [(show (m86.2 74) = (m.2 74) from ((fr2 Fm86 74 rfl).trans ((fr2 Fm77 74 rfl).trans ((fr2 Fm59 74 rfl).trans ((fr2 Fm50 74 rfl).trans ((fr2 Fm37 74 rfl).trans ((fr2 Fm29 74 rfl).trans ((fr2 Fm23 74 rfl).trans ((fr2 Fm11 74 rfl).trans (fr2 Fm3 74 rfl)))))))))), (show (m86.1 223) = (m.1 223) from ((fr1 Fm86 223 rfl).trans ((fr1 Fm77 223 rfl).trans ((fr1 Fm59 223 rfl).trans ((fr1 Fm50 223 rfl).trans ((fr1 Fm37 223 rfl).trans ((fr1 Fm29 223 rfl).trans ((fr1 Fm23 223 rfl).trans ((fr1 Fm11 223 rfl).trans (fr1 Fm3 223 rfl))))))))))]; exact hTD)) (fun rr93 k94 => ?_)
              rcases k94 with ⟨m95, Tm95, Fm95, h96, rfl⟩ | ⟨xx99, m97, hx98, Tm97, Fm97, rfl⟩
              rotate_left
              · skip
                refine Or.inr ⟨_, _, _, _, rfl, ?_⟩
                exact Or.inr ⟨xx99, (mO m97 [] []), (hx98), Tm97, (fr_m (fr_s Fm97 (fr_m (fr_s Fm86 (fr_m (fr_s Fm77 (fr_m (fr_s Fm59 (fr_m (fr_s Fm50 (fr_m (fr_s Fm37 (fr_m (fr_s Fm29 (fr_m (fr_s Fm23 (fr_m (fr_s Fm11 (fr_m (fr_s Fm3 (fr_m fr_0 rfl rfl) rfl rfl) rfl rfl) rfl rfl) rfl rfl) rfl rfl) rfl rfl) rfl rfl) rfl rfl) rfl rfl) rfl rfl) rfl rfl) rfl rfl) rfl rfl) rfl rfl) rfl rfl) rfl rfl) rfl rfl) rfl rfl) rfl rfl) rfl rfl), (show NKp (m97.2 18) (m97.2 19) by rewrite [(show (m97.2 18) = (m37.2 18) from ((fr2 Fm97 18 rfl).trans ((fr2 Fm86 18 rfl).trans ((fr2 Fm77 18 rfl).trans ((fr2 Fm59 18 rfl).trans (fr2 Fm50 18 rfl)))))), (show (m97.2 19) = (m37.2 19) from ((fr2 Fm97 19 rfl).trans ((fr2 Fm86 19 rfl).trans ((fr2 Fm77 19 rfl).trans ((fr2 Fm59 19 rfl).trans (fr2 Fm50 19 rfl))))))]; exact hNK), rfl⟩
              refine Or.inl ⟨_, _, _, _, rfl, ?_⟩
              refine K_nb (st' := []) rfl ?_
              have g100 : (-1) ≤ m95.1 206 ∧ m95.1 206 ≤ 65535 := Tm95.1 206
              replace h96 : LTp ((m.1 219) + 1) (m95.2 74) (m86.1 223) := h96
              rewrite [(show (m86.1 223) = (m.1 223) from ((fr1 Fm86 223 rfl).trans ((fr1 Fm77 223 rfl).trans ((fr1 Fm59 223 rfl).trans ((fr1 Fm50 223 rfl).trans ((fr1 Fm37 223 rfl).trans ((fr1 Fm29 223 rfl).trans ((fr1 Fm23 223 rfl).trans ((fr1 Fm11 223 rfl).trans (fr1 Fm3 223 rfl))))))))))] at h96
              have hTD := h96
              refine T_ld 169 (.ref 178) rfl (fun _ => rfl) ?_
              refine K_gf 172 (.ref 6) rfl rfl kd_178 rfl rfl rfl ?_
              refine T_ld 175 (.int (i32 316)) rfl (fun _ => rfl) ?_
              refine T_callx 178 78 [.ref 6, .int (i32 316)] [] rfl (fun _ => rfl) rfl rfl (c_tx_expect w (mO m95 [] []) c N D (by omega) Tm95 316 ⟨by decide, by decide⟩) (fun rr101 k102 => ?_)
              rcases k102 with ⟨m103, Tm103, Fm103, h104, h105, rfl⟩ | ⟨xx108, m106, hx107, Tm106, Fm106, rfl⟩
              rotate_left
              · skip
                refine Or.inr ⟨_, _, _, _, rfl, ?_⟩
                exact Or.inr ⟨xx108, (mO m106 [] []), (hx107), Tm106, (fr_m (fr_s Fm106 (fr_m (fr_s Fm95 (fr_m (fr_s Fm86 (fr_m (fr_s Fm77 (fr_m (fr_s Fm59 (fr_m (fr_s Fm50 (fr_m (fr_s Fm37 (fr_m (fr_s Fm29 (fr_m (fr_s Fm23 (fr_m (fr_s Fm11 (fr_m (fr_s Fm3 (fr_m fr_0 rfl rfl) rfl rfl) rfl rfl) rfl rfl) rfl rfl) rfl rfl) rfl rfl) rfl rfl) rfl rfl) rfl rfl) rfl rfl) rfl rfl) rfl rfl) rfl rfl) rfl rfl) rfl rfl) rfl rfl) rfl rfl) rfl rfl) rfl rfl) rfl rfl) rfl rfl) rfl rfl), (show NKp (m106.2 18) (m106.2 19) by rewrite [(show (m106.2 18) = (m37.2 18) from ((fr2 Fm106 18 rfl).trans ((fr2 Fm95 18 rfl).trans ((fr2 Fm86 18 rfl).trans ((fr2 Fm77 18 rfl).trans ((fr2 Fm59 18 rfl).trans (fr2 Fm50 18 rfl))))))), (show (m106.2 19) = (m37.2 19) from ((fr2 Fm106 19 rfl).trans ((fr2 Fm95 19 rfl).trans ((fr2 Fm86 19 rfl).trans ((fr2 Fm77 19 rfl).trans ((fr2 Fm59 19 rfl).trans (fr2 Fm50 19 rfl)))))))]; exact hNK), rfl⟩
              refine Or.inl ⟨_, _, _, _, rfl, ?_⟩
              refine K_nb (st' := []) rfl ?_
              have g109 : (-1) ≤ m103.1 206 ∧ m103.1 206 ≤ 65535 := Tm103.1 206
              replace h104 : (m95.1 206) = (316 : Int) := h104
              replace h105 : (m95.1 213) = 0 := h105
              rewrite [(show (m95.1 213) = (m37.1 213) from ((fr1 Fm95 213 rfl).trans ((fr1 Fm86 213 rfl).trans ((fr1 Fm77 213 rfl).trans ((fr1 Fm59 213 rfl).trans (fr1 Fm50 213 rfl))))))] at h105
              refine T_ld 179 (.ref 178) rfl (fun _ => rfl) ?_
              refine T_ld 180 (.ref (tbr (m.1 219))) rfl (fun _ => rfl) ?_
              refine T_callx 183 134 [.ref 178, .ref (tbr (m.1 219))] [] rfl (fun _ => rfl) rfl rfl (c_rd_roomLine w (mO m103 [] []) c N D (by omega) Tm103 (m.1 219) (r32 (by omega) (by omega)) (show 0 ≤ (m.1 219) ∧ (m.1 219) ≤ 7 by omega)) (fun rr110 k111 => ?_)
              rcases k111 with ⟨m112, Tm112, Fm112, rfl⟩ | ⟨xx115, m113, hx114, Tm113, Fm113, rfl⟩
              rotate_left
              · skip
                refine Or.inr ⟨_, _, _, _, rfl, ?_⟩
                exact Or.inr ⟨xx115, (mO m113 [] []), (hx114), Tm113, (fr_m (fr_s Fm113 (fr_m (fr_s Fm103 (fr_m (fr_s Fm95 (fr_m (fr_s Fm86 (fr_m (fr_s Fm77 (fr_m (fr_s Fm59 (fr_m (fr_s Fm50 (fr_m (fr_s Fm37 (fr_m (fr_s Fm29 (fr_m (fr_s Fm23 (fr_m (fr_s Fm11 (fr_m (fr_s Fm3 (fr_m fr_0 rfl rfl) rfl rfl) rfl rfl) rfl rfl) rfl rfl) rfl rfl) rfl rfl) rfl rfl) rfl rfl) rfl rfl) rfl rfl) rfl rfl) rfl rfl) rfl rfl) rfl rfl) rfl rfl) rfl rfl) rfl rfl) rfl rfl) rfl rfl) rfl rfl) rfl rfl) rfl rfl) rfl rfl) rfl rfl), (show NKp (m113.2 18) (m113.2 19) by rewrite [(show (m113.2 18) = (m37.2 18) from ((fr2 Fm113 18 rfl).trans ((fr2 Fm103 18 rfl).trans ((fr2 Fm95 18 rfl).trans ((fr2 Fm86 18 rfl).trans ((fr2 Fm77 18 rfl).trans ((fr2 Fm59 18 rfl).trans (fr2 Fm50 18 rfl)))))))), (show (m113.2 19) = (m37.2 19) from ((fr2 Fm113 19 rfl).trans ((fr2 Fm103 19 rfl).trans ((fr2 Fm95 19 rfl).trans ((fr2 Fm86 19 rfl).trans ((fr2 Fm77 19 rfl).trans ((fr2 Fm59 19 rfl).trans (fr2 Fm50 19 rfl))))))))]; exact hNK), rfl⟩
              refine Or.inl ⟨_, _, _, _, rfl, ?_⟩
              refine K_nb (st' := []) rfl ?_
              have g116 : (-1) ≤ m112.1 206 ∧ m112.1 206 ≤ 65535 := Tm112.1 206
              refine T_ld 184 (.ref 178) rfl (fun _ => rfl) ?_
              refine K_gf 187 (.ref 6) rfl rfl kd_178 rfl rfl rfl ?_
              refine T_ld 189 (.int (i32 125)) rfl (fun _ => rfl) ?_
              refine T_callx 192 78 [.ref 6, .int (i32 125)] [] rfl (fun _ => rfl) rfl rfl (c_tx_expect w (mO m112 [] []) c N D (by omega) Tm112 125 ⟨by decide, by decide⟩) (fun rr117 k118 => ?_)
              rcases k118 with ⟨m119, Tm119, Fm119, h120, h121, rfl⟩ | ⟨xx124, m122, hx123, Tm122, Fm122, rfl⟩
              rotate_left
              · skip
                refine Or.inr ⟨_, _, _, _, rfl, ?_⟩
                exact Or.inr ⟨xx124, (mO m122 [] []), (hx123), Tm122, (fr_m (fr_s Fm122 (fr_m (fr_s Fm112 (fr_m (fr_s Fm103 (fr_m (fr_s Fm95 (fr_m (fr_s Fm86 (fr_m (fr_s Fm77 (fr_m (fr_s Fm59 (fr_m (fr_s Fm50 (fr_m (fr_s Fm37 (fr_m (fr_s Fm29 (fr_m (fr_s Fm23 (fr_m (fr_s Fm11 (fr_m (fr_s Fm3 (fr_m fr_0 rfl rfl) rfl rfl) rfl rfl) rfl rfl) rfl rfl) rfl rfl) rfl rfl) rfl rfl) rfl rfl) rfl rfl) rfl rfl) rfl rfl) rfl rfl) rfl rfl) rfl rfl) rfl rfl) rfl rfl) rfl rfl) rfl rfl) rfl rfl) rfl rfl) rfl rfl) rfl rfl) rfl rfl) rfl rfl) rfl rfl) rfl rfl), (show NKp (m122.2 18) (m122.2 19) by rewrite [(show (m122.2 18) = (m37.2 18) from ((fr2 Fm122 18 rfl).trans ((fr2 Fm112 18 rfl).trans ((fr2 Fm103 18 rfl).trans ((fr2 Fm95 18 rfl).trans ((fr2 Fm86 18 rfl).trans ((fr2 Fm77 18 rfl).trans ((fr2 Fm59 18 rfl).trans (fr2 Fm50 18 rfl))))))))), (show (m122.2 19) = (m37.2 19) from ((fr2 Fm122 19 rfl).trans ((fr2 Fm112 19 rfl).trans ((fr2 Fm103 19 rfl).trans ((fr2 Fm95 19 rfl).trans ((fr2 Fm86 19 rfl).trans ((fr2 Fm77 19 rfl).trans ((fr2 Fm59 19 rfl).trans (fr2 Fm50 19 rfl)))))))))]; exact hNK), rfl⟩
              refine Or.inl ⟨_, _, _, _, rfl, ?_⟩
              refine K_nb (st' := []) rfl ?_
              have g125 : (-1) ≤ m119.1 206 ∧ m119.1 206 ≤ 65535 := Tm119.1 206
              replace h120 : (m112.1 206) = (125 : Int) := h120
              replace h121 : (m112.1 213) = 0 := h121
              rewrite [(show (m112.1 213) = (m37.1 213) from ((fr1 Fm112 213 rfl).trans ((fr1 Fm103 213 rfl).trans ((fr1 Fm95 213 rfl).trans ((fr1 Fm86 213 rfl).trans ((fr1 Fm77 213 rfl).trans ((fr1 Fm59 213 rfl).trans (fr1 Fm50 213 rfl))))))))] at h121
              refine T_ret rfl (fun _ => rfl) ?_
              exact Or.inl ⟨(mO m119 [] []), Tm119, (fr_m (fr_s Fm119 (fr_m (fr_s Fm112 (fr_m (fr_s Fm103 (fr_m (fr_s Fm95 (fr_m (fr_s Fm86 (fr_m (fr_s Fm77 (fr_m (fr_s Fm59 (fr_m (fr_s Fm50 (fr_m (fr_s Fm37 (fr_m (fr_s Fm29 (fr_m (fr_s Fm23 (fr_m (fr_s Fm11 (fr_m (fr_s Fm3 (fr_m fr_0 rfl rfl) rfl rfl) rfl rfl) rfl rfl) rfl rfl) rfl rfl) rfl rfl) rfl rfl) rfl rfl) rfl rfl) rfl rfl) rfl rfl) rfl rfl) rfl rfl) rfl rfl) rfl rfl) rfl rfl) rfl rfl) rfl rfl) rfl rfl) rfl rfl) rfl rfl) rfl rfl) rfl rfl) rfl rfl) rfl rfl) rfl rfl), (show KPp (m119.1 203) (m119.2 8) (m119.2 9) (m.1 214) (m.1 215) (m.1 216) (m.1 217) (m.1 221) (m.1 223) (m119.1 219) by rewrite [(show (m119.1 203) = (m11.1 203) from ((fr1 Fm119 203 rfl).trans ((fr1 Fm112 203 rfl).trans ((fr1 Fm103 203 rfl).trans ((fr1 Fm95 203 rfl).trans ((fr1 Fm86 203 rfl).trans ((fr1 Fm77 203 rfl).trans ((fr1 Fm59 203 rfl).trans ((fr1 Fm50 203 rfl).trans ((fr1 Fm37 203 rfl).trans ((fr1 Fm29 203 rfl).trans (fr1 Fm23 203 rfl)))))))))))), (show (m119.2 8) = (m11.2 8) from ((fr2 Fm119 8 rfl).trans ((fr2 Fm112 8 rfl).trans ((fr2 Fm103 8 rfl).trans ((fr2 Fm95 8 rfl).trans ((fr2 Fm86 8 rfl).trans ((fr2 Fm77 8 rfl).trans ((fr2 Fm59 8 rfl).trans ((fr2 Fm50 8 rfl).trans ((fr2 Fm37 8 rfl).trans ((fr2 Fm29 8 rfl).trans (fr2 Fm23 8 rfl)))))))))))), (show (m119.2 9) = (m11.2 9) from ((fr2 Fm119 9 rfl).trans ((fr2 Fm112 9 rfl).trans ((fr2 Fm103 9 rfl).trans ((fr2 Fm95 9 rfl).trans ((fr2 Fm86 9 rfl).trans ((fr2 Fm77 9 rfl).trans ((fr2 Fm59 9 rfl).trans ((fr2 Fm50 9 rfl).trans ((fr2 Fm37 9 rfl).trans ((fr2 Fm29 9 rfl).trans (fr2 Fm23 9 rfl)))))))))))), (show (m119.1 219) = ((m.1 219) + 1) from ((fr1 Fm119 219 rfl).trans ((fr1 Fm112 219 rfl).trans ((fr1 Fm103 219 rfl).trans ((fr1 Fm95 219 rfl).trans ((fr1 Fm86 219 rfl).trans ((fr1 Fm77 219 rfl).trans ((fr1 Fm59 219 rfl).trans ((fr1 Fm50 219 rfl).trans ((fr1 Fm37 219 rfl).trans ((fr1 Fm29 219 rfl).trans (fr1 Fm23 219 rfl))))))))))))]; first | (exact pKP) | (exfalso; omega)), (show NKp (m119.2 18) (m119.2 19) by rewrite [(show (m119.2 18) = (m37.2 18) from ((fr2 Fm119 18 rfl).trans ((fr2 Fm112 18 rfl).trans ((fr2 Fm103 18 rfl).trans ((fr2 Fm95 18 rfl).trans ((fr2 Fm86 18 rfl).trans ((fr2 Fm77 18 rfl).trans ((fr2 Fm59 18 rfl).trans (fr2 Fm50 18 rfl))))))))), (show (m119.2 19) = (m37.2 19) from ((fr2 Fm119 19 rfl).trans ((fr2 Fm112 19 rfl).trans ((fr2 Fm103 19 rfl).trans ((fr2 Fm95 19 rfl).trans ((fr2 Fm86 19 rfl).trans ((fr2 Fm77 19 rfl).trans ((fr2 Fm59 19 rfl).trans (fr2 Fm50 19 rfl)))))))))]; first | (exact hNK) | (exfalso; omega)), (show TLp (m119.1 219) (m119.2 73) (m119.2 83) (m.1 223) by rewrite [(show (m119.1 219) = ((m.1 219) + 1) from ((fr1 Fm119 219 rfl).trans ((fr1 Fm112 219 rfl).trans ((fr1 Fm103 219 rfl).trans ((fr1 Fm95 219 rfl).trans ((fr1 Fm86 219 rfl).trans ((fr1 Fm77 219 rfl).trans ((fr1 Fm59 219 rfl).trans ((fr1 Fm50 219 rfl).trans ((fr1 Fm37 219 rfl).trans ((fr1 Fm29 219 rfl).trans (fr1 Fm23 219 rfl)))))))))))), (show (m119.2 73) = (m59.2 73) from ((fr2 Fm119 73 rfl).trans ((fr2 Fm112 73 rfl).trans ((fr2 Fm103 73 rfl).trans ((fr2 Fm95 73 rfl).trans ((fr2 Fm86 73 rfl).trans (fr2 Fm77 73 rfl))))))), (show (m119.2 83) = (m59.2 83) from ((fr2 Fm119 83 rfl).trans ((fr2 Fm112 83 rfl).trans ((fr2 Fm103 83 rfl).trans ((fr2 Fm95 83 rfl).trans ((fr2 Fm86 83 rfl).trans (fr2 Fm77 83 rfl)))))))]; first | (exact hTL) | (exfalso; omega)), (show LTp (m119.1 219) (m119.2 74) (m.1 223) by rewrite [(show (m119.1 219) = ((m.1 219) + 1) from ((fr1 Fm119 219 rfl).trans ((fr1 Fm112 219 rfl).trans ((fr1 Fm103 219 rfl).trans ((fr1 Fm95 219 rfl).trans ((fr1 Fm86 219 rfl).trans ((fr1 Fm77 219 rfl).trans ((fr1 Fm59 219 rfl).trans ((fr1 Fm50 219 rfl).trans ((fr1 Fm37 219 rfl).trans ((fr1 Fm29 219 rfl).trans (fr1 Fm23 219 rfl)))))))))))), (show (m119.2 74) = (m95.2 74) from ((fr2 Fm119 74 rfl).trans ((fr2 Fm112 74 rfl).trans (fr2 Fm103 74 rfl))))]; first | (exact hTD) | (exfalso; omega)), (show ZHp (m119.1 219) (m119.2 78) by rewrite [(show (m119.1 219) = ((m.1 219) + 1) from ((fr1 Fm119 219 rfl).trans ((fr1 Fm112 219 rfl).trans ((fr1 Fm103 219 rfl).trans ((fr1 Fm95 219 rfl).trans ((fr1 Fm86 219 rfl).trans ((fr1 Fm77 219 rfl).trans ((fr1 Fm59 219 rfl).trans ((fr1 Fm50 219 rfl).trans ((fr1 Fm37 219 rfl).trans ((fr1 Fm29 219 rfl).trans (fr1 Fm23 219 rfl)))))))))))), (show (m119.2 78) = (m23.2 78) from ((fr2 Fm119 78 rfl).trans ((fr2 Fm112 78 rfl).trans ((fr2 Fm103 78 rfl).trans ((fr2 Fm95 78 rfl).trans ((fr2 Fm86 78 rfl).trans ((fr2 Fm77 78 rfl).trans ((fr2 Fm59 78 rfl).trans ((fr2 Fm50 78 rfl).trans ((fr2 Fm37 78 rfl).trans (fr2 Fm29 78 rfl)))))))))))]; first | (exact hZH) | (exfalso; omega)), rfl⟩
            · skip
              refine T_ld 123 (.int (i32 v57)) rfl (fun _ => rfl) ?_
              refine T_if 144 126 rfl rfl rfl (r32 (by omega) (by omega)) (fun (h126 : v57 = 0) => ?_) (fun (h126 : ¬ (v57 = 0)) => ?_)
              · skip
                refine T_ld 145 (.ref 178) rfl (fun _ => rfl) ?_
                refine K_gf 148 (.ref 6) rfl rfl kd_178 rfl rfl rfl ?_
                refine T_ld 150 (.int (i32 59)) rfl (fun _ => rfl) ?_
                refine T_callx 153 78 [.ref 6, .int (i32 59)] [] rfl (fun _ => rfl) rfl rfl (c_tx_expect w (mO m59 [] []) c N D (by omega) Tm59 59 ⟨by decide, by decide⟩) (fun rr127 k128 => ?_)
                rcases k128 with ⟨m129, Tm129, Fm129, h130, h131, rfl⟩ | ⟨xx134, m132, hx133, Tm132, Fm132, rfl⟩
                rotate_left
                · skip
                  refine Or.inr ⟨_, _, _, _, rfl, ?_⟩
                  exact Or.inr ⟨xx134, (mO m132 [] []), (hx133), Tm132, (fr_m (fr_s Fm132 (fr_m (fr_s Fm59 (fr_m (fr_s Fm50 (fr_m (fr_s Fm37 (fr_m (fr_s Fm29 (fr_m (fr_s Fm23 (fr_m (fr_s Fm11 (fr_m (fr_s Fm3 (fr_m fr_0 rfl rfl) rfl rfl) rfl rfl) rfl rfl) rfl rfl) rfl rfl) rfl rfl) rfl rfl) rfl rfl) rfl rfl) rfl rfl) rfl rfl) rfl rfl) rfl rfl) rfl rfl) rfl rfl) rfl rfl), (show NKp (m132.2 18) (m132.2 19) by rewrite [(show (m132.2 18) = (m37.2 18) from ((fr2 Fm132 18 rfl).trans ((fr2 Fm59 18 rfl).trans (fr2 Fm50 18 rfl)))), (show (m132.2 19) = (m37.2 19) from ((fr2 Fm132 19 rfl).trans ((fr2 Fm59 19 rfl).trans (fr2 Fm50 19 rfl))))]; exact hNK), rfl⟩
                refine Or.inl ⟨_, _, _, _, rfl, ?_⟩
                refine K_nb (st' := []) rfl ?_
                have g135 : (-1) ≤ m129.1 206 ∧ m129.1 206 ≤ 65535 := Tm129.1 206
                replace h130 : (m59.1 206) = (59 : Int) := h130
                replace h131 : (m59.1 213) = 0 := h131
                rewrite [(show (m59.1 213) = (m37.1 213) from ((fr1 Fm59 213 rfl).trans (fr1 Fm50 213 rfl)))] at h131
                refine T_ld 154 (.ref 178) rfl (fun _ => rfl) ?_
                refine K_gf 157 (.ref 6) rfl rfl kd_178 rfl rfl rfl ?_
                refine T_ld 160 (.int (i32 308)) rfl (fun _ => rfl) ?_
                refine T_callx 163 78 [.ref 6, .int (i32 308)] [] rfl (fun _ => rfl) rfl rfl (c_tx_expect w (mO m129 [] []) c N D (by omega) Tm129 308 ⟨by decide, by decide⟩) (fun rr136 k137 => ?_)
                rcases k137 with ⟨m138, Tm138, Fm138, h139, h140, rfl⟩ | ⟨xx143, m141, hx142, Tm141, Fm141, rfl⟩
                rotate_left
                · skip
                  refine Or.inr ⟨_, _, _, _, rfl, ?_⟩
                  exact Or.inr ⟨xx143, (mO m141 [] []), (hx142), Tm141, (fr_m (fr_s Fm141 (fr_m (fr_s Fm129 (fr_m (fr_s Fm59 (fr_m (fr_s Fm50 (fr_m (fr_s Fm37 (fr_m (fr_s Fm29 (fr_m (fr_s Fm23 (fr_m (fr_s Fm11 (fr_m (fr_s Fm3 (fr_m fr_0 rfl rfl) rfl rfl) rfl rfl) rfl rfl) rfl rfl) rfl rfl) rfl rfl) rfl rfl) rfl rfl) rfl rfl) rfl rfl) rfl rfl) rfl rfl) rfl rfl) rfl rfl) rfl rfl) rfl rfl) rfl rfl) rfl rfl), (show NKp (m141.2 18) (m141.2 19) by rewrite [(show (m141.2 18) = (m37.2 18) from ((fr2 Fm141 18 rfl).trans ((fr2 Fm129 18 rfl).trans ((fr2 Fm59 18 rfl).trans (fr2 Fm50 18 rfl))))), (show (m141.2 19) = (m37.2 19) from ((fr2 Fm141 19 rfl).trans ((fr2 Fm129 19 rfl).trans ((fr2 Fm59 19 rfl).trans (fr2 Fm50 19 rfl)))))]; exact hNK), rfl⟩
                refine Or.inl ⟨_, _, _, _, rfl, ?_⟩
                refine K_nb (st' := []) rfl ?_
                have g144 : (-1) ≤ m138.1 206 ∧ m138.1 206 ≤ 65535 := Tm138.1 206
                replace h139 : (m129.1 206) = (308 : Int) := h139
                replace h140 : (m129.1 213) = 0 := h140
                rewrite [(show (m129.1 213) = (m37.1 213) from ((fr1 Fm129 213 rfl).trans ((fr1 Fm59 213 rfl).trans (fr1 Fm50 213 rfl))))] at h140
                refine T_ld 164 (.ref 178) rfl (fun _ => rfl) ?_
                refine T_ld 165 (.ref (tbr (m.1 219))) rfl (fun _ => rfl) ?_
                refine T_callx 168 133 [.ref 178, .ref (tbr (m.1 219))] [] rfl (fun _ => rfl) rfl rfl (c_rd_defaultLine w (mO m138 [] []) c N D (by omega) Tm138 (m.1 219) (r32 (by omega) (by omega)) (show KPp (m138.1 203) (m138.2 8) (m138.2 9) (m138.1 214) (m138.1 215) (m138.1 216) (m138.1 217) (m138.1 221) (m138.1 223) (m138.1 219) by rewrite [(show (m138.1 203) = (m11.1 203) from ((fr1 Fm138 203 rfl).trans ((fr1 Fm129 203 rfl).trans ((fr1 Fm59 203 rfl).trans ((fr1 Fm50 203 rfl).trans ((fr1 Fm37 203 rfl).trans ((fr1 Fm29 203 rfl).trans (fr1 Fm23 203 rfl)))))))), (show (m138.2 8) = (m11.2 8) from ((fr2 Fm138 8 rfl).trans ((fr2 Fm129 8 rfl).trans ((fr2 Fm59 8 rfl).trans ((fr2 Fm50 8 rfl).trans ((fr2 Fm37 8 rfl).trans ((fr2 Fm29 8 rfl).trans (fr2 Fm23 8 rfl)))))))), (show (m138.2 9) = (m11.2 9) from ((fr2 Fm138 9 rfl).trans ((fr2 Fm129 9 rfl).trans ((fr2 Fm59 9 rfl).trans ((fr2 Fm50 9 rfl).trans ((fr2 Fm37 9 rfl).trans ((fr2 Fm29 9 rfl).trans (fr2 Fm23 9 rfl)))))))), (show (m138.1 214) = (m.1 214) from ((fr1 Fm138 214 rfl).trans ((fr1 Fm129 214 rfl).trans ((fr1 Fm59 214 rfl).trans ((fr1 Fm50 214 rfl).trans ((fr1 Fm37 214 rfl).trans ((fr1 Fm29 214 rfl).trans ((fr1 Fm23 214 rfl).trans ((fr1 Fm11 214 rfl).trans (fr1 Fm3 214 rfl)))))))))), (show (m138.1 215) = (m.1 215) from ((fr1 Fm138 215 rfl).trans ((fr1 Fm129 215 rfl).trans ((fr1 Fm59 215 rfl).trans ((fr1 Fm50 215 rfl).trans ((fr1 Fm37 215 rfl).trans ((fr1 Fm29 215 rfl).trans ((fr1 Fm23 215 rfl).trans ((fr1 Fm11 215 rfl).trans (fr1 Fm3 215 rfl)))))))))), (show (m138.1 216) = (m.1 216) from ((fr1 Fm138 216 rfl).trans ((fr1 Fm129 216 rfl).trans ((fr1 Fm59 216 rfl).trans ((fr1 Fm50 216 rfl).trans ((fr1 Fm37 216 rfl).trans ((fr1 Fm29 216 rfl).trans ((fr1 Fm23 216 rfl).trans ((fr1 Fm11 216 rfl).trans (fr1 Fm3 216 rfl)))))))))), (show (m138.1 217) = (m.1 217) from ((fr1 Fm138 217 rfl).trans ((fr1 Fm129 217 rfl).trans ((fr1 Fm59 217 rfl).trans ((fr1 Fm50 217 rfl).trans ((fr1 Fm37 217 rfl).trans ((fr1 Fm29 217 rfl).trans ((fr1 Fm23 217 rfl).trans ((fr1 Fm11 217 rfl).trans (fr1 Fm3 217 rfl)))))))))), (show (m138.1 221) = (m.1 221) from ((fr1 Fm138 221 rfl).trans ((fr1 Fm129 221 rfl).trans ((fr1 Fm59 221 rfl).trans ((fr1 Fm50 221 rfl).trans ((fr1 Fm37 221 rfl).trans ((fr1 Fm29 221 rfl).trans ((fr1 Fm23 221 rfl).trans ((fr1 Fm11 221 rfl).trans (fr1 Fm3 221 rfl)))))))))), (show (m138.1 223) = (m.1 223) from ((fr1 Fm138 223 rfl).trans ((fr1 Fm129 223 rfl).trans ((fr1 Fm59 223 rfl).trans ((fr1 Fm50 223 rfl).trans ((fr1 Fm37 223 rfl).trans ((fr1 Fm29 223 rfl).trans ((fr1 Fm23 223 rfl).trans ((fr1 Fm11 223 rfl).trans (fr1 Fm3 223 rfl)))))))))), (show (m138.1 219) = ((m.1 219) + 1) from ((fr1 Fm138 219 rfl).trans ((fr1 Fm129 219 rfl).trans ((fr1 Fm59 219 rfl).trans ((fr1 Fm50 219 rfl).trans ((fr1 Fm37 219 rfl).trans ((fr1 Fm29 219 rfl).trans (fr1 Fm23 219 rfl))))))))]; exact pKP) (show 0 ≤ (m.1 219) ∧ (m.1 219) ≤ 7 by omega) (show LTp (m.1 219) (m138.2 74) (m138.1 223) by rewrite [(show (m138.2 74) = (m.2 74) from ((fr2 Fm138 74 rfl).trans ((fr2 Fm129 74 rfl).trans ((fr2 Fm59 74 rfl).trans ((fr2 Fm50 74 rfl).trans ((fr2 Fm37 74 rfl).trans ((fr2 Fm29 74 rfl).trans ((fr2 Fm23 74 rfl).trans ((fr2 Fm11 74 rfl).trans (fr2 Fm3 74 rfl)))))))))), (show (m138.1 223) = (m.1 223) from ((fr1 Fm138 223 rfl).trans ((fr1 Fm129 223 rfl).trans ((fr1 Fm59 223 rfl).trans ((fr1 Fm50 223 rfl).trans ((fr1 Fm37 223 rfl).trans ((fr1 Fm29 223 rfl).trans ((fr1 Fm23 223 rfl).trans ((fr1 Fm11 223 rfl).trans (fr1 Fm3 223 rfl))))))))))]; exact hTD)) (fun rr145 k146 => ?_)
                rcases k146 with ⟨m147, Tm147, Fm147, h148, rfl⟩ | ⟨xx151, m149, hx150, Tm149, Fm149, rfl⟩
                rotate_left
                · skip
                  refine Or.inr ⟨_, _, _, _, rfl, ?_⟩
                  exact Or.inr ⟨xx151, (mO m149 [] []), (hx150), Tm149, (fr_m (fr_s Fm149 (fr_m (fr_s Fm138 (fr_m (fr_s Fm129 (fr_m (fr_s Fm59 (fr_m (fr_s Fm50 (fr_m (fr_s Fm37 (fr_m (fr_s Fm29 (fr_m (fr_s Fm23 (fr_m (fr_s Fm11 (fr_m (fr_s Fm3 (fr_m fr_0 rfl rfl) rfl rfl) rfl rfl) rfl rfl) rfl rfl) rfl rfl) rfl rfl) rfl rfl) rfl rfl) rfl rfl) rfl rfl) rfl rfl) rfl rfl) rfl rfl) rfl rfl) rfl rfl) rfl rfl) rfl rfl) rfl rfl) rfl rfl) rfl rfl), (show NKp (m149.2 18) (m149.2 19) by rewrite [(show (m149.2 18) = (m37.2 18) from ((fr2 Fm149 18 rfl).trans ((fr2 Fm138 18 rfl).trans ((fr2 Fm129 18 rfl).trans ((fr2 Fm59 18 rfl).trans (fr2 Fm50 18 rfl)))))), (show (m149.2 19) = (m37.2 19) from ((fr2 Fm149 19 rfl).trans ((fr2 Fm138 19 rfl).trans ((fr2 Fm129 19 rfl).trans ((fr2 Fm59 19 rfl).trans (fr2 Fm50 19 rfl))))))]; exact hNK), rfl⟩
                refine Or.inl ⟨_, _, _, _, rfl, ?_⟩
                refine K_nb (st' := []) rfl ?_
                have g152 : (-1) ≤ m147.1 206 ∧ m147.1 206 ≤ 65535 := Tm147.1 206
                replace h148 : LTp ((m.1 219) + 1) (m147.2 74) (m138.1 223) := h148
                rewrite [(show (m138.1 223) = (m.1 223) from ((fr1 Fm138 223 rfl).trans ((fr1 Fm129 223 rfl).trans ((fr1 Fm59 223 rfl).trans ((fr1 Fm50 223 rfl).trans ((fr1 Fm37 223 rfl).trans ((fr1 Fm29 223 rfl).trans ((fr1 Fm23 223 rfl).trans ((fr1 Fm11 223 rfl).trans (fr1 Fm3 223 rfl))))))))))] at h148
                have hTD := h148
                refine T_ld 169 (.ref 178) rfl (fun _ => rfl) ?_
                refine K_gf 172 (.ref 6) rfl rfl kd_178 rfl rfl rfl ?_
                refine T_ld 175 (.int (i32 316)) rfl (fun _ => rfl) ?_
                refine T_callx 178 78 [.ref 6, .int (i32 316)] [] rfl (fun _ => rfl) rfl rfl (c_tx_expect w (mO m147 [] []) c N D (by omega) Tm147 316 ⟨by decide, by decide⟩) (fun rr153 k154 => ?_)
                rcases k154 with ⟨m155, Tm155, Fm155, h156, h157, rfl⟩ | ⟨xx160, m158, hx159, Tm158, Fm158, rfl⟩
                rotate_left
                · skip
                  refine Or.inr ⟨_, _, _, _, rfl, ?_⟩
                  exact Or.inr ⟨xx160, (mO m158 [] []), (hx159), Tm158, (fr_m (fr_s Fm158 (fr_m (fr_s Fm147 (fr_m (fr_s Fm138 (fr_m (fr_s Fm129 (fr_m (fr_s Fm59 (fr_m (fr_s Fm50 (fr_m (fr_s Fm37 (fr_m (fr_s Fm29 (fr_m (fr_s Fm23 (fr_m (fr_s Fm11 (fr_m (fr_s Fm3 (fr_m fr_0 rfl rfl) rfl rfl) rfl rfl) rfl rfl) rfl rfl) rfl rfl) rfl rfl) rfl rfl) rfl rfl) rfl rfl) rfl rfl) rfl rfl) rfl rfl) rfl rfl) rfl rfl) rfl rfl) rfl rfl) rfl rfl) rfl rfl) rfl rfl) rfl rfl) rfl rfl) rfl rfl), (show NKp (m158.2 18) (m158.2 19) by rewrite [(show (m158.2 18) = (m37.2 18) from ((fr2 Fm158 18 rfl).trans ((fr2 Fm147 18 rfl).trans ((fr2 Fm138 18 rfl).trans ((fr2 Fm129 18 rfl).trans ((fr2 Fm59 18 rfl).trans (fr2 Fm50 18 rfl))))))), (show (m158.2 19) = (m37.2 19) from ((fr2 Fm158 19 rfl).trans ((fr2 Fm147 19 rfl).trans ((fr2 Fm138 19 rfl).trans ((fr2 Fm129 19 rfl).trans ((fr2 Fm59 19 rfl).trans (fr2 Fm50 19 rfl)))))))]; exact hNK), rfl⟩
                refine Or.inl ⟨_, _, _, _, rfl, ?_⟩
                refine K_nb (st' := []) rfl ?_
                have g161 : (-1) ≤ m155.1 206 ∧ m155.1 206 ≤ 65535 := Tm155.1 206
                replace h156 : (m147.1 206) = (316 : Int) := h156
                replace h157 : (m147.1 213) = 0 := h157
                rewrite [(show (m147.1 213) = (m37.1 213) from ((fr1 Fm147 213 rfl).trans ((fr1 Fm138 213 rfl).trans ((fr1 Fm129 213 rfl).trans ((fr1 Fm59 213 rfl).trans (fr1 Fm50 213 rfl))))))] at h157
                refine T_ld 179 (.ref 178) rfl (fun _ => rfl) ?_
                refine T_ld 180 (.ref (tbr (m.1 219))) rfl (fun _ => rfl) ?_
                refine T_callx 183 134 [.ref 178, .ref (tbr (m.1 219))] [] rfl (fun _ => rfl) rfl rfl (c_rd_roomLine w (mO m155 [] []) c N D (by omega) Tm155 (m.1 219) (r32 (by omega) (by omega)) (show 0 ≤ (m.1 219) ∧ (m.1 219) ≤ 7 by omega)) (fun rr162 k163 => ?_)
                rcases k163 with ⟨m164, Tm164, Fm164, rfl⟩ | ⟨xx167, m165, hx166, Tm165, Fm165, rfl⟩
                rotate_left
                · skip
                  refine Or.inr ⟨_, _, _, _, rfl, ?_⟩
                  exact Or.inr ⟨xx167, (mO m165 [] []), (hx166), Tm165, (fr_m (fr_s Fm165 (fr_m (fr_s Fm155 (fr_m (fr_s Fm147 (fr_m (fr_s Fm138 (fr_m (fr_s Fm129 (fr_m (fr_s Fm59 (fr_m (fr_s Fm50 (fr_m (fr_s Fm37 (fr_m (fr_s Fm29 (fr_m (fr_s Fm23 (fr_m (fr_s Fm11 (fr_m (fr_s Fm3 (fr_m fr_0 rfl rfl) rfl rfl) rfl rfl) rfl rfl) rfl rfl) rfl rfl) rfl rfl) rfl rfl) rfl rfl) rfl rfl) rfl rfl) rfl rfl) rfl rfl) rfl rfl) rfl rfl) rfl rfl) rfl rfl) rfl rfl) rfl rfl) rfl rfl) rfl rfl) rfl rfl) rfl rfl) rfl rfl) rfl rfl), (show NKp (m165.2 18) (m165.2 19) by rewrite [(show (m165.2 18) = (m37.2 18) from ((fr2 Fm165 18 rfl).trans ((fr2 Fm155 18 rfl).trans ((fr2 Fm147 18 rfl).trans ((fr2 Fm138 18 rfl).trans ((fr2 Fm129 18 rfl).trans ((fr2 Fm59 18 rfl).trans (fr2 Fm50 18 rfl)))))))), (show (m165.2 19) = (m37.2 19) from ((fr2 Fm165 19 rfl).trans ((fr2 Fm155 19 rfl).trans ((fr2 Fm147 19 rfl).trans ((fr2 Fm138 19 rfl).trans ((fr2 Fm129 19 rfl).trans ((fr2 Fm59 19 rfl).trans (fr2 Fm50 19 rfl))))))))]; exact hNK), rfl⟩
                refine Or.inl ⟨_, _, _, _, rfl, ?_⟩
                refine K_nb (st' := []) rfl ?_
                have g168 : (-1) ≤ m164.1 206 ∧ m164.1 206 ≤ 65535 := Tm164.1 206
                refine T_ld 184 (.ref 178) rfl (fun _ => rfl) ?_
                refine K_gf 187 (.ref 6) rfl rfl kd_178 rfl rfl rfl ?_
                refine T_ld 189 (.int (i32 125)) rfl (fun _ => rfl) ?_
                refine T_callx 192 78 [.ref 6, .int (i32 125)] [] rfl (fun _ => rfl) rfl rfl (c_tx_expect w (mO m164 [] []) c N D (by omega) Tm164 125 ⟨by decide, by decide⟩) (fun rr169 k170 => ?_)
                rcases k170 with ⟨m171, Tm171, Fm171, h172, h173, rfl⟩ | ⟨xx176, m174, hx175, Tm174, Fm174, rfl⟩
                rotate_left
                · skip
                  refine Or.inr ⟨_, _, _, _, rfl, ?_⟩
                  exact Or.inr ⟨xx176, (mO m174 [] []), (hx175), Tm174, (fr_m (fr_s Fm174 (fr_m (fr_s Fm164 (fr_m (fr_s Fm155 (fr_m (fr_s Fm147 (fr_m (fr_s Fm138 (fr_m (fr_s Fm129 (fr_m (fr_s Fm59 (fr_m (fr_s Fm50 (fr_m (fr_s Fm37 (fr_m (fr_s Fm29 (fr_m (fr_s Fm23 (fr_m (fr_s Fm11 (fr_m (fr_s Fm3 (fr_m fr_0 rfl rfl) rfl rfl) rfl rfl) rfl rfl) rfl rfl) rfl rfl) rfl rfl) rfl rfl) rfl rfl) rfl rfl) rfl rfl) rfl rfl) rfl rfl) rfl rfl) rfl rfl) rfl rfl) rfl rfl) rfl rfl) rfl rfl) rfl rfl) rfl rfl) rfl rfl) rfl rfl) rfl rfl) rfl rfl) rfl rfl) rfl rfl), (show NKp (m174.2 18) (m174.2 19) by rewrite [(show (m174.2 18) = (m37.2 18) from ((fr2 Fm174 18 rfl).trans ((fr2 Fm164 18 rfl).trans ((fr2 Fm155 18 rfl).trans ((fr2 Fm147 18 rfl).trans ((fr2 Fm138 18 rfl).trans ((fr2 Fm129 18 rfl).trans ((fr2 Fm59 18 rfl).trans (fr2 Fm50 18 rfl))))))))), (show (m174.2 19) = (m37.2 19) from ((fr2 Fm174 19 rfl).trans ((fr2 Fm164 19 rfl).trans ((fr2 Fm155 19 rfl).trans ((fr2 Fm147 19 rfl).trans ((fr2 Fm138 19 rfl).trans ((fr2 Fm129 19 rfl).trans ((fr2 Fm59 19 rfl).trans (fr2 Fm50 19 rfl)))))))))]; exact hNK), rfl⟩
                refine Or.inl ⟨_, _, _, _, rfl, ?_⟩
                refine K_nb (st' := []) rfl ?_
                have g177 : (-1) ≤ m171.1 206 ∧ m171.1 206 ≤ 65535 := Tm171.1 206
                replace h172 : (m164.1 206) = (125 : Int) := h172
                replace h173 : (m164.1 213) = 0 := h173
                rewrite [(show (m164.1 213) = (m37.1 213) from ((fr1 Fm164 213 rfl).trans ((fr1 Fm155 213 rfl).trans ((fr1 Fm147 213 rfl).trans ((fr1 Fm138 213 rfl).trans ((fr1 Fm129 213 rfl).trans ((fr1 Fm59 213 rfl).trans (fr1 Fm50 213 rfl))))))))] at h173
                refine T_ret rfl (fun _ => rfl) ?_
                exact Or.inl ⟨(mO m171 [] []), Tm171, (fr_m (fr_s Fm171 (fr_m (fr_s Fm164 (fr_m (fr_s Fm155 (fr_m (fr_s Fm147 (fr_m (fr_s Fm138 (fr_m (fr_s Fm129 (fr_m (fr_s Fm59 (fr_m (fr_s Fm50 (fr_m (fr_s Fm37 (fr_m (fr_s Fm29 (fr_m (fr_s Fm23 (fr_m (fr_s Fm11 (fr_m (fr_s Fm3 (fr_m fr_0 rfl rfl) rfl rfl) rfl rfl) rfl rfl) rfl rfl) rfl rfl) rfl rfl) rfl rfl) rfl rfl) rfl rfl) rfl rfl) rfl rfl) rfl rfl) rfl rfl) rfl rfl) rfl rfl) rfl rfl) rfl rfl) rfl rfl) rfl rfl) rfl rfl) rfl rfl) rfl rfl) rfl rfl) rfl rfl) rfl rfl) rfl rfl), (show KPp (m171.1 203) (m171.2 8) (m171.2 9) (m.1 214) (m.1 215) (m.1 216) (m.1 217) (m.1 221) (m.1 223) (m171.1 219) by rewrite [(show (m171.1 203) = (m11.1 203) from ((fr1 Fm171 203 rfl).trans ((fr1 Fm164 203 rfl).trans ((fr1 Fm155 203 rfl).trans ((fr1 Fm147 203 rfl).trans ((fr1 Fm138 203 rfl).trans ((fr1 Fm129 203 rfl).trans ((fr1 Fm59 203 rfl).trans ((fr1 Fm50 203 rfl).trans ((fr1 Fm37 203 rfl).trans ((fr1 Fm29 203 rfl).trans (fr1 Fm23 203 rfl)))))))))))), (show (m171.2 8) = (m11.2 8) from ((fr2 Fm171 8 rfl).trans ((fr2 Fm164 8 rfl).trans ((fr2 Fm155 8 rfl).trans ((fr2 Fm147 8 rfl).trans ((fr2 Fm138 8 rfl).trans ((fr2 Fm129 8 rfl).trans ((fr2 Fm59 8 rfl).trans ((fr2 Fm50 8 rfl).trans ((fr2 Fm37 8 rfl).trans ((fr2 Fm29 8 rfl).trans (fr2 Fm23 8 rfl)))))))))))), (show (m171.2 9) = (m11.2 9) from ((fr2 Fm171 9 rfl).trans ((fr2 Fm164 9 rfl).trans ((fr2 Fm155 9 rfl).trans ((fr2 Fm147 9 rfl).trans ((fr2 Fm138 9 rfl).trans ((fr2 Fm129 9 rfl).trans ((fr2 Fm59 9 rfl).trans ((fr2 Fm50 9 rfl).trans ((fr2 Fm37 9 rfl).trans ((fr2 Fm29 9 rfl).trans (fr2 Fm23 9 rfl)))))))))))), (show (m171.1 219) = ((m.1 219) + 1) from ((fr1 Fm171 219 rfl).trans ((fr1 Fm164 219 rfl).trans ((fr1 Fm155 219 rfl).trans ((fr1 Fm147 219 rfl).trans ((fr1 Fm138 219 rfl).trans ((fr1 Fm129 219 rfl).trans ((fr1 Fm59 219 rfl).trans ((fr1 Fm50 219 rfl).trans ((fr1 Fm37 219 rfl).trans ((fr1 Fm29 219 rfl).trans (fr1 Fm23 219 rfl))))))))))))]; first | (exact pKP) | (exfalso; omega)), (show NKp (m171.2 18) (m171.2 19) by rewrite [(show (m171.2 18) = (m37.2 18) from ((fr2 Fm171 18 rfl).trans ((fr2 Fm164 18 rfl).trans ((fr2 Fm155 18 rfl).trans ((fr2 Fm147 18 rfl).trans ((fr2 Fm138 18 rfl).trans ((fr2 Fm129 18 rfl).trans ((fr2 Fm59 18 rfl).trans (fr2 Fm50 18 rfl))))))))), (show (m171.2 19) = (m37.2 19) from ((fr2 Fm171 19 rfl).trans ((fr2 Fm164 19 rfl).trans ((fr2 Fm155 19 rfl).trans ((fr2 Fm147 19 rfl).trans ((fr2 Fm138 19 rfl).trans ((fr2 Fm129 19 rfl).trans ((fr2 Fm59 19 rfl).trans (fr2 Fm50 19 rfl)))))))))]; first | (exact hNK) | (exfalso; omega)), (show TLp (m171.1 219) (m171.2 73) (m171.2 83) (m.1 223) by rewrite [(show (m171.1 219) = ((m.1 219) + 1) from ((fr1 Fm171 219 rfl).trans ((fr1 Fm164 219 rfl).trans ((fr1 Fm155 219 rfl).trans ((fr1 Fm147 219 rfl).trans ((fr1 Fm138 219 rfl).trans ((fr1 Fm129 219 rfl).trans ((fr1 Fm59 219 rfl).trans ((fr1 Fm50 219 rfl).trans ((fr1 Fm37 219 rfl).trans ((fr1 Fm29 219 rfl).trans (fr1 Fm23 219 rfl)))))))))))), (show (m171.2 73) = (m59.2 73) from ((fr2 Fm171 73 rfl).trans ((fr2 Fm164 73 rfl).trans ((fr2 Fm155 73 rfl).trans ((fr2 Fm147 73 rfl).trans ((fr2 Fm138 73 rfl).trans (fr2 Fm129 73 rfl))))))), (show (m171.2 83) = (m59.2 83) from ((fr2 Fm171 83 rfl).trans ((fr2 Fm164 83 rfl).trans ((fr2 Fm155 83 rfl).trans ((fr2 Fm147 83 rfl).trans ((fr2 Fm138 83 rfl).trans (fr2 Fm129 83 rfl)))))))]; first | (exact hTL) | (exfalso; omega)), (show LTp (m171.1 219) (m171.2 74) (m.1 223) by rewrite [(show (m171.1 219) = ((m.1 219) + 1) from ((fr1 Fm171 219 rfl).trans ((fr1 Fm164 219 rfl).trans ((fr1 Fm155 219 rfl).trans ((fr1 Fm147 219 rfl).trans ((fr1 Fm138 219 rfl).trans ((fr1 Fm129 219 rfl).trans ((fr1 Fm59 219 rfl).trans ((fr1 Fm50 219 rfl).trans ((fr1 Fm37 219 rfl).trans ((fr1 Fm29 219 rfl).trans (fr1 Fm23 219 rfl)))))))))))), (show (m171.2 74) = (m147.2 74) from ((fr2 Fm171 74 rfl).trans ((fr2 Fm164 74 rfl).trans (fr2 Fm155 74 rfl))))]; first | (exact hTD) | (exfalso; omega)), (show ZHp (m171.1 219) (m171.2 78) by rewrite [(show (m171.1 219) = ((m.1 219) + 1) from ((fr1 Fm171 219 rfl).trans ((fr1 Fm164 219 rfl).trans ((fr1 Fm155 219 rfl).trans ((fr1 Fm147 219 rfl).trans ((fr1 Fm138 219 rfl).trans ((fr1 Fm129 219 rfl).trans ((fr1 Fm59 219 rfl).trans ((fr1 Fm50 219 rfl).trans ((fr1 Fm37 219 rfl).trans ((fr1 Fm29 219 rfl).trans (fr1 Fm23 219 rfl)))))))))))), (show (m171.2 78) = (m23.2 78) from ((fr2 Fm171 78 rfl).trans ((fr2 Fm164 78 rfl).trans ((fr2 Fm155 78 rfl).trans ((fr2 Fm147 78 rfl).trans ((fr2 Fm138 78 rfl).trans ((fr2 Fm129 78 rfl).trans ((fr2 Fm59 78 rfl).trans ((fr2 Fm50 78 rfl).trans ((fr2 Fm37 78 rfl).trans (fr2 Fm29 78 rfl)))))))))))]; first | (exact hZH) | (exfalso; omega)), rfl⟩
              · skip
                refine T_ld 127 (.ref 178) rfl (fun _ => rfl) ?_
                refine T_ld 128 (.ref (tbr (m.1 219))) rfl (fun _ => rfl) ?_
                refine T_ld 130 (.int (i32 v58)) rfl (fun _ => rfl) ?_
                refine T_callx 133 131 [.ref 178, .ref (tbr (m.1 219)), .int (i32 v58)] [] rfl (fun _ => rfl) rfl rfl (c_rd_listedAction w (mO m59 [] []) c N D (by omega) Tm59 (m.1 219) v58 (r32 (by omega) (by omega)) (r32 (by omega) (by omega)) (show KPp (m59.1 203) (m59.2 8) (m59.2 9) (m59.1 214) (m59.1 215) (m59.1 216) (m59.1 217) (m59.1 221) (m59.1 223) (m59.1 219) by rewrite [(show (m59.1 203) = (m11.1 203) from ((fr1 Fm59 203 rfl).trans ((fr1 Fm50 203 rfl).trans ((fr1 Fm37 203 rfl).trans ((fr1 Fm29 203 rfl).trans (fr1 Fm23 203 rfl)))))), (show (m59.2 8) = (m11.2 8) from ((fr2 Fm59 8 rfl).trans ((fr2 Fm50 8 rfl).trans ((fr2 Fm37 8 rfl).trans ((fr2 Fm29 8 rfl).trans (fr2 Fm23 8 rfl)))))), (show (m59.2 9) = (m11.2 9) from ((fr2 Fm59 9 rfl).trans ((fr2 Fm50 9 rfl).trans ((fr2 Fm37 9 rfl).trans ((fr2 Fm29 9 rfl).trans (fr2 Fm23 9 rfl)))))), (show (m59.1 214) = (m.1 214) from ((fr1 Fm59 214 rfl).trans ((fr1 Fm50 214 rfl).trans ((fr1 Fm37 214 rfl).trans ((fr1 Fm29 214 rfl).trans ((fr1 Fm23 214 rfl).trans ((fr1 Fm11 214 rfl).trans (fr1 Fm3 214 rfl)))))))), (show (m59.1 215) = (m.1 215) from ((fr1 Fm59 215 rfl).trans ((fr1 Fm50 215 rfl).trans ((fr1 Fm37 215 rfl).trans ((fr1 Fm29 215 rfl).trans ((fr1 Fm23 215 rfl).trans ((fr1 Fm11 215 rfl).trans (fr1 Fm3 215 rfl)))))))), (show (m59.1 216) = (m.1 216) from ((fr1 Fm59 216 rfl).trans ((fr1 Fm50 216 rfl).trans ((fr1 Fm37 216 rfl).trans ((fr1 Fm29 216 rfl).trans ((fr1 Fm23 216 rfl).trans ((fr1 Fm11 216 rfl).trans (fr1 Fm3 216 rfl)))))))), (show (m59.1 217) = (m.1 217) from ((fr1 Fm59 217 rfl).trans ((fr1 Fm50 217 rfl).trans ((fr1 Fm37 217 rfl).trans ((fr1 Fm29 217 rfl).trans ((fr1 Fm23 217 rfl).trans ((fr1 Fm11 217 rfl).trans (fr1 Fm3 217 rfl)))))))), (show (m59.1 221) = (m.1 221) from ((fr1 Fm59 221 rfl).trans ((fr1 Fm50 221 rfl).trans ((fr1 Fm37 221 rfl).trans ((fr1 Fm29 221 rfl).trans ((fr1 Fm23 221 rfl).trans ((fr1 Fm11 221 rfl).trans (fr1 Fm3 221 rfl)))))))), (show (m59.1 223) = (m.1 223) from ((fr1 Fm59 223 rfl).trans ((fr1 Fm50 223 rfl).trans ((fr1 Fm37 223 rfl).trans ((fr1 Fm29 223 rfl).trans ((fr1 Fm23 223 rfl).trans ((fr1 Fm11 223 rfl).trans (fr1 Fm3 223 rfl)))))))), (show (m59.1 219) = ((m.1 219) + 1) from ((fr1 Fm59 219 rfl).trans ((fr1 Fm50 219 rfl).trans ((fr1 Fm37 219 rfl).trans ((fr1 Fm29 219 rfl).trans (fr1 Fm23 219 rfl))))))]; exact pKP) (show 0 ≤ (m.1 219) ∧ (m.1 219) ≤ 7 by omega) (show 0 ≤ v58 ∧ v58 ≤ 8 by omega) (show (m59.2 73) (m.1 219) = v58 by omega) (show TLp (m59.1 219) (m59.2 73) (m59.2 83) (m59.1 223) by rewrite [(show (m59.1 219) = ((m.1 219) + 1) from ((fr1 Fm59 219 rfl).trans ((fr1 Fm50 219 rfl).trans ((fr1 Fm37 219 rfl).trans ((fr1 Fm29 219 rfl).trans (fr1 Fm23 219 rfl)))))), (show (m59.1 223) = (m.1 223) from ((fr1 Fm59 223 rfl).trans ((fr1 Fm50 223 rfl).trans ((fr1 Fm37 223 rfl).trans ((fr1 Fm29 223 rfl).trans ((fr1 Fm23 223 rfl).trans ((fr1 Fm11 223 rfl).trans (fr1 Fm3 223 rfl))))))))]; exact hTL)) (fun rr178 k179 => ?_)
                rcases k179 with ⟨m180, Tm180, Fm180, h181, h182, rfl⟩ | ⟨xx185, m183, hx184, Tm183, Fm183, rfl⟩
                rotate_left
                · skip
                  refine Or.inr ⟨_, _, _, _, rfl, ?_⟩
                  exact Or.inr ⟨xx185, (mO m183 [] []), (hx184), Tm183, (fr_m (fr_s Fm183 (fr_m (fr_s Fm59 (fr_m (fr_s Fm50 (fr_m (fr_s Fm37 (fr_m (fr_s Fm29 (fr_m (fr_s Fm23 (fr_m (fr_s Fm11 (fr_m (fr_s Fm3 (fr_m fr_0 rfl rfl) rfl rfl) rfl rfl) rfl rfl) rfl rfl) rfl rfl) rfl rfl) rfl rfl) rfl rfl) rfl rfl) rfl rfl) rfl rfl) rfl rfl) rfl rfl) rfl rfl) rfl rfl) rfl rfl), (show NKp (m183.2 18) (m183.2 19) by rewrite [(show (m183.2 18) = (m37.2 18) from ((fr2 Fm183 18 rfl).trans ((fr2 Fm59 18 rfl).trans (fr2 Fm50 18 rfl)))), (show (m183.2 19) = (m37.2 19) from ((fr2 Fm183 19 rfl).trans ((fr2 Fm59 19 rfl).trans (fr2 Fm50 19 rfl))))]; exact hNK), rfl⟩
                refine Or.inl ⟨_, _, _, _, rfl, ?_⟩
                refine K_nb (st' := []) rfl ?_
                have g186 : (-1) ≤ m180.1 206 ∧ m180.1 206 ≤ 65535 := Tm180.1 206
                replace h181 : (m180.2 73) (m.1 219) = v58 + 1 := h181
                have hLk := h181
                replace h182 : TLp (m59.1 219) (m180.2 73) (m180.2 83) (m59.1 223) := h182
                rewrite [(show (m59.1 219) = ((m.1 219) + 1) from ((fr1 Fm59 219 rfl).trans ((fr1 Fm50 219 rfl).trans ((fr1 Fm37 219 rfl).trans ((fr1 Fm29 219 rfl).trans (fr1 Fm23 219 rfl)))))), (show (m59.1 223) = (m.1 223) from ((fr1 Fm59 223 rfl).trans ((fr1 Fm50 223 rfl).trans ((fr1 Fm37 223 rfl).trans ((fr1 Fm29 223 rfl).trans ((fr1 Fm23 223 rfl).trans ((fr1 Fm11 223 rfl).trans (fr1 Fm3 223 rfl))))))))] at h182
                have hTL := h182
                refine T_ld 134 (.ref 178) rfl (fun _ => rfl) ?_
                refine T_callx 137 120 [.ref 178] [] rfl (fun _ => rfl) rfl rfl (c_rd_goesOnList w (mO m180 [] []) c N D (by omega) Tm180 ) (fun rr187 k188 => ?_)
                rcases k188 with ⟨m189, gl, Tm189, Fm189, g190, rfl⟩ | ⟨xx193, m191, hx192, Tm191, Fm191, rfl⟩
                rotate_left
                · skip
                  refine Or.inr ⟨_, _, _, _, rfl, ?_⟩
                  exact Or.inr ⟨xx193, (mO m191 [] []), (hx192), Tm191, (fr_m (fr_s Fm191 (fr_m (fr_s Fm180 (fr_m (fr_s Fm59 (fr_m (fr_s Fm50 (fr_m (fr_s Fm37 (fr_m (fr_s Fm29 (fr_m (fr_s Fm23 (fr_m (fr_s Fm11 (fr_m (fr_s Fm3 (fr_m fr_0 rfl rfl) rfl rfl) rfl rfl) rfl rfl) rfl rfl) rfl rfl) rfl rfl) rfl rfl) rfl rfl) rfl rfl) rfl rfl) rfl rfl) rfl rfl) rfl rfl) rfl rfl) rfl rfl) rfl rfl) rfl rfl) rfl rfl), (show NKp (m191.2 18) (m191.2 19) by rewrite [(show (m191.2 18) = (m37.2 18) from ((fr2 Fm191 18 rfl).trans ((fr2 Fm180 18 rfl).trans ((fr2 Fm59 18 rfl).trans (fr2 Fm50 18 rfl))))), (show (m191.2 19) = (m37.2 19) from ((fr2 Fm191 19 rfl).trans ((fr2 Fm180 19 rfl).trans ((fr2 Fm59 19 rfl).trans (fr2 Fm50 19 rfl)))))]; exact hNK), rfl⟩
                refine Or.inl ⟨_, _, _, _, rfl, ?_⟩
                refine K_nb (st' := [.int (i32 gl)]) rfl ?_
                obtain ⟨g190a, g190b⟩ := g190
                have g194 : (-1) ≤ m189.1 206 ∧ m189.1 206 ≤ 65535 := Tm189.1 206
                refine T_sto 138 [(3, .int (i32 gl)), (0, .ref 178), (2, .ref (tbr (m.1 219))), (4, .int (i32 v58))] rfl (fun _ => rfl) ?_
                refine T_iinc 141 [(4, .int (i32 (v58 + 1))), (3, .int (i32 gl)), (0, .ref 178), (2, .ref (tbr (m.1 219)))] rfl rfl (by decide) rfl rfl ?_
                refine T_goto 115 rfl (fun _ => rfl) ?_
                refine Tm_lv (a := [(0, .ref 178), (2, .ref (tbr (m.1 219))), (3, .int (i32 gl)), (4, .int (i32 (v58 + 1)))]) rfl rfl ⟨rfl, rfl, rfl, rfl, trivial⟩ ?_
                exact ih73 gl (v58 + 1) (mO m189 [] []) (r32 (by omega) (by omega)) (r32 (by omega) (by omega)) Tm189 (fr_m (fr_s Fm189 (fr_m (fr_s Fm180 (fr_m (fr_s Fm59 (fr_m fr_0 rfl rfl) rfl rfl) rfl rfl) rfl rfl) rfl rfl) rfl rfl) rfl rfl) (show 0 ≤ gl by omega) (show gl ≤ 1 by omega) (show 0 ≤ (v58 + 1) by omega) (show gl = 0 ∨ gl = 1 by omega) (show 0 ≤ (v58 + 1) ∧ (v58 + 1) ≤ 9 by omega) (show (m189.2 73) (m.1 219) = (v58 + 1) by rewrite [(show (m189.2 73) = (m180.2 73) from (fr2 Fm189 73 rfl))]; first | exact hLk | (rw [hLc]; exact upI_s)) (show TLp ((m.1 219) + 1) (m189.2 73) (m189.2 83) (m.1 223) by rewrite [(show (m189.2 73) = (m180.2 73) from (fr2 Fm189 73 rfl)), (show (m189.2 83) = (m180.2 83) from (fr2 Fm189 83 rfl))]; exact hTL) (show 12 - (v58 + 1) < (n72 : Int) by omega)
        refine Tm_lv (a := [(0, .ref 178), (2, .ref (tbr (m.1 219))), (3, .int (i32 1)), (4, .int (i32 0))]) rfl rfl ⟨rfl, rfl, rfl, rfl, trivial⟩ ?_
        exact L115_60 ((12 - (0 : Int) : Int) + 1).toNat 1 0 (mO m50 [] []) ⟨by decide, by decide⟩ ⟨by decide, by decide⟩ Tm50 (fr_m fr_0 rfl rfl) (show 0 ≤ (1 : Int) by omega) (show (1 : Int) ≤ 1 by omega) (show 0 ≤ (0 : Int) by omega) (show (1 : Int) = 0 ∨ (1 : Int) = 1 by omega) (show 0 ≤ (0 : Int) ∧ (0 : Int) ≤ 9 by omega) (show (m50.2 73) (m.1 219) = (0 : Int) by rewrite [(show (m50.2 73) = (m23.2 73) from ((fr2 Fm50 73 rfl).trans ((fr2 Fm37 73 rfl).trans (fr2 Fm29 73 rfl))))]; first | exact hLk | (rw [hLc]; exact upI_s)) (show TLp ((m.1 219) + 1) (m50.2 73) (m50.2 83) (m.1 223) by rewrite [(show (m50.2 73) = (m23.2 73) from ((fr2 Fm50 73 rfl).trans ((fr2 Fm37 73 rfl).trans (fr2 Fm29 73 rfl)))), (show (m50.2 83) = (m.2 83) from ((fr2 Fm50 83 rfl).trans ((fr2 Fm37 83 rfl).trans ((fr2 Fm29 83 rfl).trans ((fr2 Fm23 83 rfl).trans ((fr2 Fm11 83 rfl).trans (fr2 Fm3 83 rfl)))))))]; exact hTL) (show 12 - (0 : Int) < ((((12 - (0 : Int) : Int) + 1).toNat : Nat) : Int) by omega)
      · skip
        refine T_ld 72 (.int (i32 v36)) rfl (fun _ => rfl) ?_
        refine T_if 88 75 rfl rfl rfl (r32 (by omega) (by omega)) (fun (h195 : v36 = 0) => ?_) (fun (h195 : ¬ (v36 = 0)) => ?_)
        · skip
          refine T_ld 89 (.ref 178) rfl (fun _ => rfl) ?_
          refine T_ld 90 (.ref (tbr (m.1 219))) rfl (fun _ => rfl) ?_
          refine T_ld 91 (.int (i32 v36)) rfl (fun _ => rfl) ?_
          refine T_callx 94 129 [.ref 178, .ref (tbr (m.1 219)), .int (i32 v36)] [] rfl (fun _ => rfl) rfl rfl (c_rd_keyLine w (mO m37 [] []) c N D (by omega) Tm37 (m.1 219) v36 (r32 (by omega) (by omega)) (r32 (by omega) (by omega)) (show KPp (m37.1 203) (m37.2 8) (m37.2 9) (m37.1 214) (m37.1 215) (m37.1 216) (m37.1 217) (m37.1 221) (m37.1 223) (m37.1 219) by rewrite [(show (m37.1 203) = (m11.1 203) from ((fr1 Fm37 203 rfl).trans ((fr1 Fm29 203 rfl).trans (fr1 Fm23 203 rfl)))), (show (m37.2 8) = (m11.2 8) from ((fr2 Fm37 8 rfl).trans ((fr2 Fm29 8 rfl).trans (fr2 Fm23 8 rfl)))), (show (m37.2 9) = (m11.2 9) from ((fr2 Fm37 9 rfl).trans ((fr2 Fm29 9 rfl).trans (fr2 Fm23 9 rfl)))), (show (m37.1 214) = (m.1 214) from ((fr1 Fm37 214 rfl).trans ((fr1 Fm29 214 rfl).trans ((fr1 Fm23 214 rfl).trans ((fr1 Fm11 214 rfl).trans (fr1 Fm3 214 rfl)))))), (show (m37.1 215) = (m.1 215) from ((fr1 Fm37 215 rfl).trans ((fr1 Fm29 215 rfl).trans ((fr1 Fm23 215 rfl).trans ((fr1 Fm11 215 rfl).trans (fr1 Fm3 215 rfl)))))), (show (m37.1 216) = (m.1 216) from ((fr1 Fm37 216 rfl).trans ((fr1 Fm29 216 rfl).trans ((fr1 Fm23 216 rfl).trans ((fr1 Fm11 216 rfl).trans (fr1 Fm3 216 rfl)))))), (show (m37.1 217) = (m.1 217) from ((fr1 Fm37 217 rfl).trans ((fr1 Fm29 217 rfl).trans ((fr1 Fm23 217 rfl).trans ((fr1 Fm11 217 rfl).trans (fr1 Fm3 217 rfl)))))), (show (m37.1 221) = (m.1 221) from ((fr1 Fm37 221 rfl).trans ((fr1 Fm29 221 rfl).trans ((fr1 Fm23 221 rfl).trans ((fr1 Fm11 221 rfl).trans (fr1 Fm3 221 rfl)))))), (show (m37.1 223) = (m.1 223) from ((fr1 Fm37 223 rfl).trans ((fr1 Fm29 223 rfl).trans ((fr1 Fm23 223 rfl).trans ((fr1 Fm11 223 rfl).trans (fr1 Fm3 223 rfl)))))), (show (m37.1 219) = ((m.1 219) + 1) from ((fr1 Fm37 219 rfl).trans ((fr1 Fm29 219 rfl).trans (fr1 Fm23 219 rfl))))]; exact pKP) (show NKp (m37.2 18) (m37.2 19) by exact hNK) (show 0 ≤ (m.1 219) ∧ (m.1 219) ≤ 7 by omega) (show 0 ≤ v36 ∧ v36 ≤ 4 by omega)) (fun rr196 k197 => ?_)
          rcases k197 with ⟨m198, Tm198, Fm198, h199, rfl⟩ | ⟨xx203, m200, hx201, Tm200, Fm200, h202, rfl⟩
          rotate_left
          · skip
            refine Or.inr ⟨_, _, _, _, rfl, ?_⟩
            have hNK := h202
            exact Or.inr ⟨xx203, (mO m200 [] []), (hx201), Tm200, (fr_m (fr_s Fm200 (fr_m (fr_s Fm37 (fr_m (fr_s Fm29 (fr_m (fr_s Fm23 (fr_m (fr_s Fm11 (fr_m (fr_s Fm3 (fr_m fr_0 rfl rfl) rfl rfl) rfl rfl) rfl rfl) rfl rfl) rfl rfl) rfl rfl) rfl rfl) rfl rfl) rfl rfl) rfl rfl) rfl rfl) rfl rfl), (show NKp (m200.2 18) (m200.2 19) by exact hNK), rfl⟩
          refine Or.inl ⟨_, _, _, _, rfl, ?_⟩
          refine K_nb (st' := []) rfl ?_
          have g204 : (-1) ≤ m198.1 206 ∧ m198.1 206 ≤ 65535 := Tm198.1 206
          have g205 : 0 ≤ m198.1 213 ∧ m198.1 213 ≤ 1 := Tm198.1 213
          replace h199 : NKp (m198.2 18) (m198.2 19) := h199
          have hNK := h199
          refine T_iinc 97 [(3, .int (i32 (v36 + 1))), (0, .ref 178), (2, .ref (tbr (m.1 219)))] rfl rfl (by decide) rfl rfl ?_
          refine T_goto 66 rfl (fun _ => rfl) ?_
          refine Tm_lv (a := [(0, .ref 178), (2, .ref (tbr (m.1 219))), (3, .int (i32 (v36 + 1)))]) rfl rfl ⟨rfl, rfl, rfl, trivial⟩ ?_
          exact ih46 (v36 + 1) (mO m198 [] []) (r32 (by omega) (by omega)) Tm198 (fr_m (fr_s Fm198 (fr_m (fr_s Fm37 (fr_m fr_0 rfl rfl) rfl rfl) rfl rfl) rfl rfl) rfl rfl) (show 0 ≤ (v36 + 1) by omega) (show NKp (m198.2 18) (m198.2 19) by exact hNK) (show 0 ≤ (v36 + 1) ∧ (v36 + 1) ≤ 5 by omega) (show 12 - (v36 + 1) < (n45 : Int) by omega)
        · skip
          refine T_ld 76 (.ref 178) rfl (fun _ => rfl) ?_
          refine K_gf 79 (.ref 6) rfl rfl kd_178 rfl rfl rfl ?_
          refine K_gf 82 (.int (i32 (m37.1 206))) rfl rfl kd_6 rfl rfl rfl ?_
          refine T_ld 85 (.int (i32 311)) rfl (fun _ => rfl) ?_
          refine T_icmp 100 88 rfl rfl rfl (r32 (by omega) (by omega)) ⟨by decide, by decide⟩ (fun (h206 : (m37.1 206) ≠ 311) => ?_) (fun (h206 : ¬ ((m37.1 206) ≠ 311)) => ?_)
          · skip
            refine T_ld 101 (.ref 178) rfl (fun _ => rfl) ?_
            refine K_gf 104 (.ref 6) rfl rfl kd_178 rfl rfl rfl ?_
            refine T_ld 107 (.int (i32 315)) rfl (fun _ => rfl) ?_
            refine T_callx 110 78 [.ref 6, .int (i32 315)] [] rfl (fun _ => rfl) rfl rfl (c_tx_expect w (mO m37 [] []) c N D (by omega) Tm37 315 ⟨by decide, by decide⟩) (fun rr207 k208 => ?_)
            rcases k208 with ⟨m209, Tm209, Fm209, h210, h211, rfl⟩ | ⟨xx214, m212, hx213, Tm212, Fm212, rfl⟩
            rotate_left
            · skip
              refine Or.inr ⟨_, _, _, _, rfl, ?_⟩
              exact Or.inr ⟨xx214, (mO m212 [] []), (hx213), Tm212, (fr_m (fr_s Fm212 (fr_m (fr_s Fm37 (fr_m (fr_s Fm29 (fr_m (fr_s Fm23 (fr_m (fr_s Fm11 (fr_m (fr_s Fm3 (fr_m fr_0 rfl rfl) rfl rfl) rfl rfl) rfl rfl) rfl rfl) rfl rfl) rfl rfl) rfl rfl) rfl rfl) rfl rfl) rfl rfl) rfl rfl) rfl rfl), (show NKp (m212.2 18) (m212.2 19) by rewrite [(show (m212.2 18) = (m37.2 18) from (fr2 Fm212 18 rfl)), (show (m212.2 19) = (m37.2 19) from (fr2 Fm212 19 rfl))]; exact hNK), rfl⟩
            refine Or.inl ⟨_, _, _, _, rfl, ?_⟩
            refine K_nb (st' := []) rfl ?_
            have g215 : (-1) ≤ m209.1 206 ∧ m209.1 206 ≤ 65535 := Tm209.1 206
            replace h210 : (m37.1 206) = (315 : Int) := h210
            replace h211 : (m37.1 213) = 0 := h211
            refine T_ld 111 (.int (i32 1)) rfl (fun _ => rfl) ?_
            refine T_sto 112 [(3, .int (i32 1)), (0, .ref 178), (2, .ref (tbr (m.1 219)))] rfl (fun _ => rfl) ?_
            refine T_ld 113 (.int (i32 0)) rfl (fun _ => rfl) ?_
            refine T_sto 115 [(4, .int (i32 0)), (3, .int (i32 1)), (0, .ref 178), (2, .ref (tbr (m.1 219)))] rfl (fun _ => rfl) ?_
            have L115_219 : ∀ (n231 : Nat) (v216 : Int) (v217 : Int) (m218 : mR), (R32 v216) → (R32 v217) → KTy m218 → fr [205, 206, 207, 208, 209, 210, 211, 212] [73, 83] (mO m209 [] []) m218 → (0 ≤ v216) → (v216 ≤ 1) → (0 ≤ v217) → (v216 = 0 ∨ v216 = 1) → (0 ≤ v217 ∧ v217 ≤ 9) → ((m218.2 73) (m.1 219) = v217) → (TLp ((m.1 219) + 1) (m218.2 73) (m218.2 83) (m.1 223)) → 12 - v217 < (n231 : Int) → TT w D pm_127 (115, [(0, .ref 178), (2, .ref (tbr (m.1 219))), (3, .int (i32 v216)), (4, .int (i32 v217))], [], (khp (mO m218 [] []) c, N), 0, 0) (Q_rd_table m c N) := by
              intro n231
              induction n231 with
              | zero =>
                intro v216 v217 m218 q227 q228 Tm218 Fm218 ic220 ic221 ic222 ic223 ic224 ic225 ic226 hmu
                obtain ⟨q227a, q227b⟩ := id q227
                obtain ⟨q228a, q228b⟩ := id q228
                have q229_206 : (-1) ≤ m218.1 206 ∧ m218.1 206 ≤ 65535 := Tm218.1 206
                have hLk := ic225
                have hTL := ic226
                exfalso
                omega
              | succ n231 ih =>
                intro v216 v217 m218 q227 q228 Tm218 Fm218 ic220 ic221 ic222 ic223 ic224 ic225 ic226 hmu
                obtain ⟨q227a, q227b⟩ := id q227
                obtain ⟨q228a, q228b⟩ := id q228
                have q229_206 : (-1) ≤ m218.1 206 ∧ m218.1 206 ≤ 65535 := Tm218.1 206
                have hLk := ic225
                have hTL := ic226
                have ih232 := ih
                refine T_ld 117 (.int (i32 v217)) rfl (fun _ => rfl) ?_
                refine T_ld 119 (.int (i32 8)) rfl (fun _ => rfl) ?_
                refine T_icmp 144 122 rfl rfl rfl (r32 (by omega) (by omega)) ⟨by decide, by decide⟩ (fun (h233 : (8 : Int) < v217) => ?_) (fun (h233 : ¬ ((8 : Int) < v217)) => ?_)
                · skip
                  refine T_ld 145 (.ref 178) rfl (fun _ => rfl) ?_
                  refine K_gf 148 (.ref 6) rfl rfl kd_178 rfl rfl rfl ?_
                  refine T_ld 150 (.int (i32 59)) rfl (fun _ => rfl) ?_
                  refine T_callx 153 78 [.ref 6, .int (i32 59)] [] rfl (fun _ => rfl) rfl rfl (c_tx_expect w (mO m218 [] []) c N D (by omega) Tm218 59 ⟨by decide, by decide⟩) (fun rr234 k235 => ?_)
                  rcases k235 with ⟨m236, Tm236, Fm236, h237, h238, rfl⟩ | ⟨xx241, m239, hx240, Tm239, Fm239, rfl⟩
                  rotate_left
                  · skip
                    refine Or.inr ⟨_, _, _, _, rfl, ?_⟩
                    exact Or.inr ⟨xx241, (mO m239 [] []), (hx240), Tm239, (fr_m (fr_s Fm239 (fr_m (fr_s Fm218 (fr_m (fr_s Fm209 (fr_m (fr_s Fm37 (fr_m (fr_s Fm29 (fr_m (fr_s Fm23 (fr_m (fr_s Fm11 (fr_m (fr_s Fm3 (fr_m fr_0 rfl rfl) rfl rfl) rfl rfl) rfl rfl) rfl rfl) rfl rfl) rfl rfl) rfl rfl) rfl rfl) rfl rfl) rfl rfl) rfl rfl) rfl rfl) rfl rfl) rfl rfl) rfl rfl) rfl rfl), (show NKp (m239.2 18) (m239.2 19) by rewrite [(show (m239.2 18) = (m37.2 18) from ((fr2 Fm239 18 rfl).trans ((fr2 Fm218 18 rfl).trans (fr2 Fm209 18 rfl)))), (show (m239.2 19) = (m37.2 19) from ((fr2 Fm239 19 rfl).trans ((fr2 Fm218 19 rfl).trans (fr2 Fm209 19 rfl))))]; exact hNK), rfl⟩
                  refine Or.inl ⟨_, _, _, _, rfl, ?_⟩
                  refine K_nb (st' := []) rfl ?_
                  have g242 : (-1) ≤ m236.1 206 ∧ m236.1 206 ≤ 65535 := Tm236.1 206
                  replace h237 : (m218.1 206) = (59 : Int) := h237
                  replace h238 : (m218.1 213) = 0 := h238
                  rewrite [(show (m218.1 213) = (m37.1 213) from ((fr1 Fm218 213 rfl).trans (fr1 Fm209 213 rfl)))] at h238
                  refine T_ld 154 (.ref 178) rfl (fun _ => rfl) ?_
                  refine K_gf 157 (.ref 6) rfl rfl kd_178 rfl rfl rfl ?_
                  refine T_ld 160 (.int (i32 308)) rfl (fun _ => rfl) ?_
                  refine T_callx 163 78 [.ref 6, .int (i32 308)] [] rfl (fun _ => rfl) rfl rfl (c_tx_expect w (mO m236 [] []) c N D (by omega) Tm236 308 ⟨by decide, by decide⟩) (fun rr243 k244 => ?_)
                  rcases k244 with ⟨m245, Tm245, Fm245, h246, h247, rfl⟩ | ⟨xx250, m248, hx249, Tm248, Fm248, rfl⟩
                  rotate_left
                  · skip
                    refine Or.inr ⟨_, _, _, _, rfl, ?_⟩
                    exact Or.inr ⟨xx250, (mO m248 [] []), (hx249), Tm248, (fr_m (fr_s Fm248 (fr_m (fr_s Fm236 (fr_m (fr_s Fm218 (fr_m (fr_s Fm209 (fr_m (fr_s Fm37 (fr_m (fr_s Fm29 (fr_m (fr_s Fm23 (fr_m (fr_s Fm11 (fr_m (fr_s Fm3 (fr_m fr_0 rfl rfl) rfl rfl) rfl rfl) rfl rfl) rfl rfl) rfl rfl) rfl rfl) rfl rfl) rfl rfl) rfl rfl) rfl rfl) rfl rfl) rfl rfl) rfl rfl) rfl rfl) rfl rfl) rfl rfl) rfl rfl) rfl rfl), (show NKp (m248.2 18) (m248.2 19) by rewrite [(show (m248.2 18) = (m37.2 18) from ((fr2 Fm248 18 rfl).trans ((fr2 Fm236 18 rfl).trans ((fr2 Fm218 18 rfl).trans (fr2 Fm209 18 rfl))))), (show (m248.2 19) = (m37.2 19) from ((fr2 Fm248 19 rfl).trans ((fr2 Fm236 19 rfl).trans ((fr2 Fm218 19 rfl).trans (fr2 Fm209 19 rfl)))))]; exact hNK), rfl⟩
                  refine Or.inl ⟨_, _, _, _, rfl, ?_⟩
                  refine K_nb (st' := []) rfl ?_
                  have g251 : (-1) ≤ m245.1 206 ∧ m245.1 206 ≤ 65535 := Tm245.1 206
                  replace h246 : (m236.1 206) = (308 : Int) := h246
                  replace h247 : (m236.1 213) = 0 := h247
                  rewrite [(show (m236.1 213) = (m37.1 213) from ((fr1 Fm236 213 rfl).trans ((fr1 Fm218 213 rfl).trans (fr1 Fm209 213 rfl))))] at h247
                  refine T_ld 164 (.ref 178) rfl (fun _ => rfl) ?_
                  refine T_ld 165 (.ref (tbr (m.1 219))) rfl (fun _ => rfl) ?_
                  refine T_callx 168 133 [.ref 178, .ref (tbr (m.1 219))] [] rfl (fun _ => rfl) rfl rfl (c_rd_defaultLine w (mO m245 [] []) c N D (by omega) Tm245 (m.1 219) (r32 (by omega) (by omega)) (show KPp (m245.1 203) (m245.2 8) (m245.2 9) (m245.1 214) (m245.1 215) (m245.1 216) (m245.1 217) (m245.1 221) (m245.1 223) (m245.1 219) by rewrite [(show (m245.1 203) = (m11.1 203) from ((fr1 Fm245 203 rfl).trans ((fr1 Fm236 203 rfl).trans ((fr1 Fm218 203 rfl).trans ((fr1 Fm209 203 rfl).trans ((fr1 Fm37 203 rfl).trans ((fr1 Fm29 203 rfl).trans (fr1 Fm23 203 rfl)))))))), (show (m245.2 8) = (m11.2 8) from ((fr2 Fm245 8 rfl).trans ((fr2 Fm236 8 rfl).trans ((fr2 Fm218 8 rfl).trans ((fr2 Fm209 8 rfl).trans ((fr2 Fm37 8 rfl).trans ((fr2 Fm29 8 rfl).trans (fr2 Fm23 8 rfl)))))))), (show (m245.2 9) = (m11.2 9) from ((fr2 Fm245 9 rfl).trans ((fr2 Fm236 9 rfl).trans ((fr2 Fm218 9 rfl).trans ((fr2 Fm209 9 rfl).trans ((fr2 Fm37 9 rfl).trans ((fr2 Fm29 9 rfl).trans (fr2 Fm23 9 rfl)))))))), (show (m245.1 214) = (m.1 214) from ((fr1 Fm245 214 rfl).trans ((fr1 Fm236 214 rfl).trans ((fr1 Fm218 214 rfl).trans ((fr1 Fm209 214 rfl).trans ((fr1 Fm37 214 rfl).trans ((fr1 Fm29 214 rfl).trans ((fr1 Fm23 214 rfl).trans ((fr1 Fm11 214 rfl).trans (fr1 Fm3 214 rfl)))))))))), (show (m245.1 215) = (m.1 215) from ((fr1 Fm245 215 rfl).trans ((fr1 Fm236 215 rfl).trans ((fr1 Fm218 215 rfl).trans ((fr1 Fm209 215 rfl).trans ((fr1 Fm37 215 rfl).trans ((fr1 Fm29 215 rfl).trans ((fr1 Fm23 215 rfl).trans ((fr1 Fm11 215 rfl).trans (fr1 Fm3 215 rfl)))))))))), (show (m245.1 216) = (m.1 216) from ((fr1 Fm245 216 rfl).trans ((fr1 Fm236 216 rfl).trans ((fr1 Fm218 216 rfl).trans ((fr1 Fm209 216 rfl).trans ((fr1 Fm37 216 rfl).trans ((fr1 Fm29 216 rfl).trans ((fr1 Fm23 216 rfl).trans ((fr1 Fm11 216 rfl).trans (fr1 Fm3 216 rfl)))))))))), (show (m245.1 217) = (m.1 217) from ((fr1 Fm245 217 rfl).trans ((fr1 Fm236 217 rfl).trans ((fr1 Fm218 217 rfl).trans ((fr1 Fm209 217 rfl).trans ((fr1 Fm37 217 rfl).trans ((fr1 Fm29 217 rfl).trans ((fr1 Fm23 217 rfl).trans ((fr1 Fm11 217 rfl).trans (fr1 Fm3 217 rfl)))))))))), (show (m245.1 221) = (m.1 221) from ((fr1 Fm245 221 rfl).trans ((fr1 Fm236 221 rfl).trans ((fr1 Fm218 221 rfl).trans ((fr1 Fm209 221 rfl).trans ((fr1 Fm37 221 rfl).trans ((fr1 Fm29 221 rfl).trans ((fr1 Fm23 221 rfl).trans ((fr1 Fm11 221 rfl).trans (fr1 Fm3 221 rfl)))))))))), (show (m245.1 223) = (m.1 223) from ((fr1 Fm245 223 rfl).trans ((fr1 Fm236 223 rfl).trans ((fr1 Fm218 223 rfl).trans ((fr1 Fm209 223 rfl).trans ((fr1 Fm37 223 rfl).trans ((fr1 Fm29 223 rfl).trans ((fr1 Fm23 223 rfl).trans ((fr1 Fm11 223 rfl).trans (fr1 Fm3 223 rfl)))))))))), (show (m245.1 219) = ((m.1 219) + 1) from ((fr1 Fm245 219 rfl).trans ((fr1 Fm236 219 rfl).trans ((fr1 Fm218 219 rfl).trans ((fr1 Fm209 219 rfl).trans ((fr1 Fm37 219 rfl).trans ((fr1 Fm29 219 rfl).trans (fr1 Fm23 219 rfl))))))))]; exact pKP) (show 0 ≤ (m.1 219) ∧ (m.1 219) ≤ 7 by omega) (show LTp (m.1 219) (m245.2 74) (m245.1 223) by rewrite [(show (m245.2 74) = (m.2 74) from ((fr2 Fm245 74 rfl).trans ((fr2 Fm236 74 rfl).trans ((fr2 Fm218 74 rfl).trans ((fr2 Fm209 74 rfl).trans ((fr2 Fm37 74 rfl).trans ((fr2 Fm29 74 rfl).trans ((fr2 Fm23 74 rfl).trans ((fr2 Fm11 74 rfl).trans (fr2 Fm3 74 rfl)))))))))), (show (m245.1 223) = (m.1 223) from ((fr1 Fm245 223 rfl).trans ((fr1 Fm236 223 rfl).trans ((fr1 Fm218 223 rfl).trans ((fr1 Fm209 223 rfl).trans ((fr1 Fm37 223 rfl).trans ((fr1 Fm29 223 rfl).trans ((fr1 Fm23 223 rfl).trans ((fr1 Fm11 223 rfl).trans (fr1 Fm3 223 rfl))))))))))]; exact hTD)) (fun rr252 k253 => ?_)
                  rcases k253 with ⟨m254, Tm254, Fm254, h255, rfl⟩ | ⟨xx258, m256, hx257, Tm256, Fm256, rfl⟩
                  rotate_left
                  · skip
                    refine Or.inr ⟨_, _, _, _, rfl, ?_⟩
                    exact Or.inr ⟨xx258, (mO m256 [] []), (hx257), Tm256, (fr_m (fr_s Fm256 (fr_m (fr_s Fm245 (fr_m (fr_s Fm236 (fr_m (fr_s Fm218 (fr_m (fr_s Fm209 (fr_m (fr_s Fm37 (fr_m (fr_s Fm29 (fr_m (fr_s Fm23 (fr_m (fr_s Fm11 (fr_m (fr_s Fm3 (fr_m fr_0 rfl rfl) rfl rfl) rfl rfl) rfl rfl) rfl rfl) rfl rfl) rfl rfl) rfl rfl) rfl rfl) rfl rfl) rfl rfl) rfl rfl) rfl rfl) rfl rfl) rfl rfl) rfl rfl) rfl rfl) rfl rfl) rfl rfl) rfl rfl) rfl rfl), (show NKp (m256.2 18) (m256.2 19) by rewrite [(show (m256.2 18) = (m37.2 18) from ((fr2 Fm256 18 rfl).trans ((fr2 Fm245 18 rfl).trans ((fr2 Fm236 18 rfl).trans ((fr2 Fm218 18 rfl).trans (fr2 Fm209 18 rfl)))))), (show (m256.2 19) = (m37.2 19) from ((fr2 Fm256 19 rfl).trans ((fr2 Fm245 19 rfl).trans ((fr2 Fm236 19 rfl).trans ((fr2 Fm218 19 rfl).trans (fr2 Fm209 19 rfl))))))]; exact hNK), rfl⟩
                  refine Or.inl ⟨_, _, _, _, rfl, ?_⟩
                  refine K_nb (st' := []) rfl ?_
                  have g259 : (-1) ≤ m254.1 206 ∧ m254.1 206 ≤ 65535 := Tm254.1 206
                  replace h255 : LTp ((m.1 219) + 1) (m254.2 74) (m245.1 223) := h255
                  rewrite [(show (m245.1 223) = (m.1 223) from ((fr1 Fm245 223 rfl).trans ((fr1 Fm236 223 rfl).trans ((fr1 Fm218 223 rfl).trans ((fr1 Fm209 223 rfl).trans ((fr1 Fm37 223 rfl).trans ((fr1 Fm29 223 rfl).trans ((fr1 Fm23 223 rfl).trans ((fr1 Fm11 223 rfl).trans (fr1 Fm3 223 rfl))))))))))] at h255
                  have hTD := h255
                  refine T_ld 169 (.ref 178) rfl (fun _ => rfl) ?_
                  refine K_gf 172 (.ref 6) rfl rfl kd_178 rfl rfl rfl ?_
                  refine T_ld 175 (.int (i32 316)) rfl (fun _ => rfl) ?_
                  refine T_callx 178 78 [.ref 6, .int (i32 316)] [] rfl (fun _ => rfl) rfl rfl (c_tx_expect w (mO m254 [] []) c N D (by omega) Tm254 316 ⟨by decide, by decide⟩) (fun rr260 k261 => ?_)
                  rcases k261 with ⟨m262, Tm262, Fm262, h263, h264, rfl⟩ | ⟨xx267, m265, hx266, Tm265, Fm265, rfl⟩
                  rotate_left
                  · skip
                    refine Or.inr ⟨_, _, _, _, rfl, ?_⟩
                    exact Or.inr ⟨xx267, (mO m265 [] []), (hx266), Tm265, (fr_m (fr_s Fm265 (fr_m (fr_s Fm254 (fr_m (fr_s Fm245 (fr_m (fr_s Fm236 (fr_m (fr_s Fm218 (fr_m (fr_s Fm209 (fr_m (fr_s Fm37 (fr_m (fr_s Fm29 (fr_m (fr_s Fm23 (fr_m (fr_s Fm11 (fr_m (fr_s Fm3 (fr_m fr_0 rfl rfl) rfl rfl) rfl rfl) rfl rfl) rfl rfl) rfl rfl) rfl rfl) rfl rfl) rfl rfl) rfl rfl) rfl rfl) rfl rfl) rfl rfl) rfl rfl) rfl rfl) rfl rfl) rfl rfl) rfl rfl) rfl rfl) rfl rfl) rfl rfl) rfl rfl) rfl rfl), (show NKp (m265.2 18) (m265.2 19) by rewrite [(show (m265.2 18) = (m37.2 18) from ((fr2 Fm265 18 rfl).trans ((fr2 Fm254 18 rfl).trans ((fr2 Fm245 18 rfl).trans ((fr2 Fm236 18 rfl).trans ((fr2 Fm218 18 rfl).trans (fr2 Fm209 18 rfl))))))), (show (m265.2 19) = (m37.2 19) from ((fr2 Fm265 19 rfl).trans ((fr2 Fm254 19 rfl).trans ((fr2 Fm245 19 rfl).trans ((fr2 Fm236 19 rfl).trans ((fr2 Fm218 19 rfl).trans (fr2 Fm209 19 rfl)))))))]; exact hNK), rfl⟩
                  refine Or.inl ⟨_, _, _, _, rfl, ?_⟩
                  refine K_nb (st' := []) rfl ?_
                  have g268 : (-1) ≤ m262.1 206 ∧ m262.1 206 ≤ 65535 := Tm262.1 206
                  replace h263 : (m254.1 206) = (316 : Int) := h263
                  replace h264 : (m254.1 213) = 0 := h264
                  rewrite [(show (m254.1 213) = (m37.1 213) from ((fr1 Fm254 213 rfl).trans ((fr1 Fm245 213 rfl).trans ((fr1 Fm236 213 rfl).trans ((fr1 Fm218 213 rfl).trans (fr1 Fm209 213 rfl))))))] at h264
                  refine T_ld 179 (.ref 178) rfl (fun _ => rfl) ?_
                  refine T_ld 180 (.ref (tbr (m.1 219))) rfl (fun _ => rfl) ?_
                  refine T_callx 183 134 [.ref 178, .ref (tbr (m.1 219))] [] rfl (fun _ => rfl) rfl rfl (c_rd_roomLine w (mO m262 [] []) c N D (by omega) Tm262 (m.1 219) (r32 (by omega) (by omega)) (show 0 ≤ (m.1 219) ∧ (m.1 219) ≤ 7 by omega)) (fun rr269 k270 => ?_)
                  rcases k270 with ⟨m271, Tm271, Fm271, rfl⟩ | ⟨xx274, m272, hx273, Tm272, Fm272, rfl⟩
                  rotate_left
                  · skip
                    refine Or.inr ⟨_, _, _, _, rfl, ?_⟩
                    exact Or.inr ⟨xx274, (mO m272 [] []), (hx273), Tm272, (fr_m (fr_s Fm272 (fr_m (fr_s Fm262 (fr_m (fr_s Fm254 (fr_m (fr_s Fm245 (fr_m (fr_s Fm236 (fr_m (fr_s Fm218 (fr_m (fr_s Fm209 (fr_m (fr_s Fm37 (fr_m (fr_s Fm29 (fr_m (fr_s Fm23 (fr_m (fr_s Fm11 (fr_m (fr_s Fm3 (fr_m fr_0 rfl rfl) rfl rfl) rfl rfl) rfl rfl) rfl rfl) rfl rfl) rfl rfl) rfl rfl) rfl rfl) rfl rfl) rfl rfl) rfl rfl) rfl rfl) rfl rfl) rfl rfl) rfl rfl) rfl rfl) rfl rfl) rfl rfl) rfl rfl) rfl rfl) rfl rfl) rfl rfl) rfl rfl) rfl rfl), (show NKp (m272.2 18) (m272.2 19) by rewrite [(show (m272.2 18) = (m37.2 18) from ((fr2 Fm272 18 rfl).trans ((fr2 Fm262 18 rfl).trans ((fr2 Fm254 18 rfl).trans ((fr2 Fm245 18 rfl).trans ((fr2 Fm236 18 rfl).trans ((fr2 Fm218 18 rfl).trans (fr2 Fm209 18 rfl)))))))), (show (m272.2 19) = (m37.2 19) from ((fr2 Fm272 19 rfl).trans ((fr2 Fm262 19 rfl).trans ((fr2 Fm254 19 rfl).trans ((fr2 Fm245 19 rfl).trans ((fr2 Fm236 19 rfl).trans ((fr2 Fm218 19 rfl).trans (fr2 Fm209 19 rfl))))))))]; exact hNK), rfl⟩
                  refine Or.inl ⟨_, _, _, _, rfl, ?_⟩
                  refine K_nb (st' := []) rfl ?_
                  have g275 : (-1) ≤ m271.1 206 ∧ m271.1 206 ≤ 65535 := Tm271.1 206
                  refine T_ld 184 (.ref 178) rfl (fun _ => rfl) ?_
                  refine K_gf 187 (.ref 6) rfl rfl kd_178 rfl rfl rfl ?_
                  refine T_ld 189 (.int (i32 125)) rfl (fun _ => rfl) ?_
                  refine T_callx 192 78 [.ref 6, .int (i32 125)] [] rfl (fun _ => rfl) rfl rfl (c_tx_expect w (mO m271 [] []) c N D (by omega) Tm271 125 ⟨by decide, by decide⟩) (fun rr276 k277 => ?_)
                  rcases k277 with ⟨m278, Tm278, Fm278, h279, h280, rfl⟩ | ⟨xx283, m281, hx282, Tm281, Fm281, rfl⟩
                  rotate_left
                  · skip
                    refine Or.inr ⟨_, _, _, _, rfl, ?_⟩
                    exact Or.inr ⟨xx283, (mO m281 [] []), (hx282), Tm281, (fr_m (fr_s Fm281 (fr_m (fr_s Fm271 (fr_m (fr_s Fm262 (fr_m (fr_s Fm254 (fr_m (fr_s Fm245 (fr_m (fr_s Fm236 (fr_m (fr_s Fm218 (fr_m (fr_s Fm209 (fr_m (fr_s Fm37 (fr_m (fr_s Fm29 (fr_m (fr_s Fm23 (fr_m (fr_s Fm11 (fr_m (fr_s Fm3 (fr_m fr_0 rfl rfl) rfl rfl) rfl rfl) rfl rfl) rfl rfl) rfl rfl) rfl rfl) rfl rfl) rfl rfl) rfl rfl) rfl rfl) rfl rfl) rfl rfl) rfl rfl) rfl rfl) rfl rfl) rfl rfl) rfl rfl) rfl rfl) rfl rfl) rfl rfl) rfl rfl) rfl rfl) rfl rfl) rfl rfl) rfl rfl) rfl rfl), (show NKp (m281.2 18) (m281.2 19) by rewrite [(show (m281.2 18) = (m37.2 18) from ((fr2 Fm281 18 rfl).trans ((fr2 Fm271 18 rfl).trans ((fr2 Fm262 18 rfl).trans ((fr2 Fm254 18 rfl).trans ((fr2 Fm245 18 rfl).trans ((fr2 Fm236 18 rfl).trans ((fr2 Fm218 18 rfl).trans (fr2 Fm209 18 rfl))))))))), (show (m281.2 19) = (m37.2 19) from ((fr2 Fm281 19 rfl).trans ((fr2 Fm271 19 rfl).trans ((fr2 Fm262 19 rfl).trans ((fr2 Fm254 19 rfl).trans ((fr2 Fm245 19 rfl).trans ((fr2 Fm236 19 rfl).trans ((fr2 Fm218 19 rfl).trans (fr2 Fm209 19 rfl)))))))))]; exact hNK), rfl⟩
                  refine Or.inl ⟨_, _, _, _, rfl, ?_⟩
                  refine K_nb (st' := []) rfl ?_
                  have g284 : (-1) ≤ m278.1 206 ∧ m278.1 206 ≤ 65535 := Tm278.1 206
                  replace h279 : (m271.1 206) = (125 : Int) := h279
                  replace h280 : (m271.1 213) = 0 := h280
                  rewrite [(show (m271.1 213) = (m37.1 213) from ((fr1 Fm271 213 rfl).trans ((fr1 Fm262 213 rfl).trans ((fr1 Fm254 213 rfl).trans ((fr1 Fm245 213 rfl).trans ((fr1 Fm236 213 rfl).trans ((fr1 Fm218 213 rfl).trans (fr1 Fm209 213 rfl))))))))] at h280
                  refine T_ret rfl (fun _ => rfl) ?_
                  exact Or.inl ⟨(mO m278 [] []), Tm278, (fr_m (fr_s Fm278 (fr_m (fr_s Fm271 (fr_m (fr_s Fm262 (fr_m (fr_s Fm254 (fr_m (fr_s Fm245 (fr_m (fr_s Fm236 (fr_m (fr_s Fm218 (fr_m (fr_s Fm209 (fr_m (fr_s Fm37 (fr_m (fr_s Fm29 (fr_m (fr_s Fm23 (fr_m (fr_s Fm11 (fr_m (fr_s Fm3 (fr_m fr_0 rfl rfl) rfl rfl) rfl rfl) rfl rfl) rfl rfl) rfl rfl) rfl rfl) rfl rfl) rfl rfl) rfl rfl) rfl rfl) rfl rfl) rfl rfl) rfl rfl) rfl rfl) rfl rfl) rfl rfl) rfl rfl) rfl rfl) rfl rfl) rfl rfl) rfl rfl) rfl rfl) rfl rfl) rfl rfl) rfl rfl) rfl rfl), (show KPp (m278.1 203) (m278.2 8) (m278.2 9) (m.1 214) (m.1 215) (m.1 216) (m.1 217) (m.1 221) (m.1 223) (m278.1 219) by rewrite [(show (m278.1 203) = (m11.1 203) from ((fr1 Fm278 203 rfl).trans ((fr1 Fm271 203 rfl).trans ((fr1 Fm262 203 rfl).trans ((fr1 Fm254 203 rfl).trans ((fr1 Fm245 203 rfl).trans ((fr1 Fm236 203 rfl).trans ((fr1 Fm218 203 rfl).trans ((fr1 Fm209 203 rfl).trans ((fr1 Fm37 203 rfl).trans ((fr1 Fm29 203 rfl).trans (fr1 Fm23 203 rfl)))))))))))), (show (m278.2 8) = (m11.2 8) from ((fr2 Fm278 8 rfl).trans ((fr2 Fm271 8 rfl).trans ((fr2 Fm262 8 rfl).trans ((fr2 Fm254 8 rfl).trans ((fr2 Fm245 8 rfl).trans ((fr2 Fm236 8 rfl).trans ((fr2 Fm218 8 rfl).trans ((fr2 Fm209 8 rfl).trans ((fr2 Fm37 8 rfl).trans ((fr2 Fm29 8 rfl).trans (fr2 Fm23 8 rfl)))))))))))), (show (m278.2 9) = (m11.2 9) from ((fr2 Fm278 9 rfl).trans ((fr2 Fm271 9 rfl).trans ((fr2 Fm262 9 rfl).trans ((fr2 Fm254 9 rfl).trans ((fr2 Fm245 9 rfl).trans ((fr2 Fm236 9 rfl).trans ((fr2 Fm218 9 rfl).trans ((fr2 Fm209 9 rfl).trans ((fr2 Fm37 9 rfl).trans ((fr2 Fm29 9 rfl).trans (fr2 Fm23 9 rfl)))))))))))), (show (m278.1 219) = ((m.1 219) + 1) from ((fr1 Fm278 219 rfl).trans ((fr1 Fm271 219 rfl).trans ((fr1 Fm262 219 rfl).trans ((fr1 Fm254 219 rfl).trans ((fr1 Fm245 219 rfl).trans ((fr1 Fm236 219 rfl).trans ((fr1 Fm218 219 rfl).trans ((fr1 Fm209 219 rfl).trans ((fr1 Fm37 219 rfl).trans ((fr1 Fm29 219 rfl).trans (fr1 Fm23 219 rfl))))))))))))]; first | (exact pKP) | (exfalso; omega)), (show NKp (m278.2 18) (m278.2 19) by rewrite [(show (m278.2 18) = (m37.2 18) from ((fr2 Fm278 18 rfl).trans ((fr2 Fm271 18 rfl).trans ((fr2 Fm262 18 rfl).trans ((fr2 Fm254 18 rfl).trans ((fr2 Fm245 18 rfl).trans ((fr2 Fm236 18 rfl).trans ((fr2 Fm218 18 rfl).trans (fr2 Fm209 18 rfl))))))))), (show (m278.2 19) = (m37.2 19) from ((fr2 Fm278 19 rfl).trans ((fr2 Fm271 19 rfl).trans ((fr2 Fm262 19 rfl).trans ((fr2 Fm254 19 rfl).trans ((fr2 Fm245 19 rfl).trans ((fr2 Fm236 19 rfl).trans ((fr2 Fm218 19 rfl).trans (fr2 Fm209 19 rfl)))))))))]; first | (exact hNK) | (exfalso; omega)), (show TLp (m278.1 219) (m278.2 73) (m278.2 83) (m.1 223) by rewrite [(show (m278.1 219) = ((m.1 219) + 1) from ((fr1 Fm278 219 rfl).trans ((fr1 Fm271 219 rfl).trans ((fr1 Fm262 219 rfl).trans ((fr1 Fm254 219 rfl).trans ((fr1 Fm245 219 rfl).trans ((fr1 Fm236 219 rfl).trans ((fr1 Fm218 219 rfl).trans ((fr1 Fm209 219 rfl).trans ((fr1 Fm37 219 rfl).trans ((fr1 Fm29 219 rfl).trans (fr1 Fm23 219 rfl)))))))))))), (show (m278.2 73) = (m218.2 73) from ((fr2 Fm278 73 rfl).trans ((fr2 Fm271 73 rfl).trans ((fr2 Fm262 73 rfl).trans ((fr2 Fm254 73 rfl).trans ((fr2 Fm245 73 rfl).trans (fr2 Fm236 73 rfl))))))), (show (m278.2 83) = (m218.2 83) from ((fr2 Fm278 83 rfl).trans ((fr2 Fm271 83 rfl).trans ((fr2 Fm262 83 rfl).trans ((fr2 Fm254 83 rfl).trans ((fr2 Fm245 83 rfl).trans (fr2 Fm236 83 rfl)))))))]; first | (exact hTL) | (exfalso; omega)), (show LTp (m278.1 219) (m278.2 74) (m.1 223) by rewrite [(show (m278.1 219) = ((m.1 219) + 1) from ((fr1 Fm278 219 rfl).trans ((fr1 Fm271 219 rfl).trans ((fr1 Fm262 219 rfl).trans ((fr1 Fm254 219 rfl).trans ((fr1 Fm245 219 rfl).trans ((fr1 Fm236 219 rfl).trans ((fr1 Fm218 219 rfl).trans ((fr1 Fm209 219 rfl).trans ((fr1 Fm37 219 rfl).trans ((fr1 Fm29 219 rfl).trans (fr1 Fm23 219 rfl)))))))))))), (show (m278.2 74) = (m254.2 74) from ((fr2 Fm278 74 rfl).trans ((fr2 Fm271 74 rfl).trans (fr2 Fm262 74 rfl))))]; first | (exact hTD) | (exfalso; omega)), (show ZHp (m278.1 219) (m278.2 78) by rewrite [(show (m278.1 219) = ((m.1 219) + 1) from ((fr1 Fm278 219 rfl).trans ((fr1 Fm271 219 rfl).trans ((fr1 Fm262 219 rfl).trans ((fr1 Fm254 219 rfl).trans ((fr1 Fm245 219 rfl).trans ((fr1 Fm236 219 rfl).trans ((fr1 Fm218 219 rfl).trans ((fr1 Fm209 219 rfl).trans ((fr1 Fm37 219 rfl).trans ((fr1 Fm29 219 rfl).trans (fr1 Fm23 219 rfl)))))))))))), (show (m278.2 78) = (m23.2 78) from ((fr2 Fm278 78 rfl).trans ((fr2 Fm271 78 rfl).trans ((fr2 Fm262 78 rfl).trans ((fr2 Fm254 78 rfl).trans ((fr2 Fm245 78 rfl).trans ((fr2 Fm236 78 rfl).trans ((fr2 Fm218 78 rfl).trans ((fr2 Fm209 78 rfl).trans ((fr2 Fm37 78 rfl).trans (fr2 Fm29 78 rfl)))))))))))]; first | (exact hZH) | (exfalso; omega)), rfl⟩
                · skip
                  refine T_ld 123 (.int (i32 v216)) rfl (fun _ => rfl) ?_
                  refine T_if 144 126 rfl rfl rfl (r32 (by omega) (by omega)) (fun (h285 : v216 = 0) => ?_) (fun (h285 : ¬ (v216 = 0)) => ?_)
                  · skip
                    refine T_ld 145 (.ref 178) rfl (fun _ => rfl) ?_
                    refine K_gf 148 (.ref 6) rfl rfl kd_178 rfl rfl rfl ?_
                    refine T_ld 150 (.int (i32 59)) rfl (fun _ => rfl) ?_
                    refine T_callx 153 78 [.ref 6, .int (i32 59)] [] rfl (fun _ => rfl) rfl rfl (c_tx_expect w (mO m218 [] []) c N D (by omega) Tm218 59 ⟨by decide, by decide⟩) (fun rr286 k287 => ?_)
                    rcases k287 with ⟨m288, Tm288, Fm288, h289, h290, rfl⟩ | ⟨xx293, m291, hx292, Tm291, Fm291, rfl⟩
                    rotate_left
                    · skip
                      refine Or.inr ⟨_, _, _, _, rfl, ?_⟩
                      exact Or.inr ⟨xx293, (mO m291 [] []), (hx292), Tm291, (fr_m (fr_s Fm291 (fr_m (fr_s Fm218 (fr_m (fr_s Fm209 (fr_m (fr_s Fm37 (fr_m (fr_s Fm29 (fr_m (fr_s Fm23 (fr_m (fr_s Fm11 (fr_m (fr_s Fm3 (fr_m fr_0 rfl rfl) rfl rfl) rfl rfl) rfl rfl) rfl rfl) rfl rfl) rfl rfl) rfl rfl) rfl rfl) rfl rfl) rfl rfl) rfl rfl) rfl rfl) rfl rfl) rfl rfl) rfl rfl) rfl rfl), (show NKp (m291.2 18) (m291.2 19) by rewrite [(show (m291.2 18) = (m37.2 18) from ((fr2 Fm291 18 rfl).trans ((fr2 Fm218 18 rfl).trans (fr2 Fm209 18 rfl)))), (show (m291.2 19) = (m37.2 19) from ((fr2 Fm291 19 rfl).trans ((fr2 Fm218 19 rfl).trans (fr2 Fm209 19 rfl))))]; exact hNK), rfl⟩
                    refine Or.inl ⟨_, _, _, _, rfl, ?_⟩
                    refine K_nb (st' := []) rfl ?_
                    have g294 : (-1) ≤ m288.1 206 ∧ m288.1 206 ≤ 65535 := Tm288.1 206
                    replace h289 : (m218.1 206) = (59 : Int) := h289
                    replace h290 : (m218.1 213) = 0 := h290
                    rewrite [(show (m218.1 213) = (m37.1 213) from ((fr1 Fm218 213 rfl).trans (fr1 Fm209 213 rfl)))] at h290
                    refine T_ld 154 (.ref 178) rfl (fun _ => rfl) ?_
                    refine K_gf 157 (.ref 6) rfl rfl kd_178 rfl rfl rfl ?_
                    refine T_ld 160 (.int (i32 308)) rfl (fun _ => rfl) ?_
                    refine T_callx 163 78 [.ref 6, .int (i32 308)] [] rfl (fun _ => rfl) rfl rfl (c_tx_expect w (mO m288 [] []) c N D (by omega) Tm288 308 ⟨by decide, by decide⟩) (fun rr295 k296 => ?_)
                    rcases k296 with ⟨m297, Tm297, Fm297, h298, h299, rfl⟩ | ⟨xx302, m300, hx301, Tm300, Fm300, rfl⟩
                    rotate_left
                    · skip
                      refine Or.inr ⟨_, _, _, _, rfl, ?_⟩
                      exact Or.inr ⟨xx302, (mO m300 [] []), (hx301), Tm300, (fr_m (fr_s Fm300 (fr_m (fr_s Fm288 (fr_m (fr_s Fm218 (fr_m (fr_s Fm209 (fr_m (fr_s Fm37 (fr_m (fr_s Fm29 (fr_m (fr_s Fm23 (fr_m (fr_s Fm11 (fr_m (fr_s Fm3 (fr_m fr_0 rfl rfl) rfl rfl) rfl rfl) rfl rfl) rfl rfl) rfl rfl) rfl rfl) rfl rfl) rfl rfl) rfl rfl) rfl rfl) rfl rfl) rfl rfl) rfl rfl) rfl rfl) rfl rfl) rfl rfl) rfl rfl) rfl rfl), (show NKp (m300.2 18) (m300.2 19) by rewrite [(show (m300.2 18) = (m37.2 18) from ((fr2 Fm300 18 rfl).trans ((fr2 Fm288 18 rfl).trans ((fr2 Fm218 18 rfl).trans (fr2 Fm209 18 rfl))))), (show (m300.2 19) = (m37.2 19) from ((fr2 Fm300 19 rfl).trans ((fr2 Fm288 19 rfl).trans ((fr2 Fm218 19 rfl).trans (fr2 Fm209 19 rfl)))))]; exact hNK), rfl⟩
                    refine Or.inl ⟨_, _, _, _, rfl, ?_⟩
                    refine K_nb (st' := []) rfl ?_
                    have g303 : (-1) ≤ m297.1 206 ∧ m297.1 206 ≤ 65535 := Tm297.1 206
                    replace h298 : (m288.1 206) = (308 : Int) := h298
                    replace h299 : (m288.1 213) = 0 := h299
                    rewrite [(show (m288.1 213) = (m37.1 213) from ((fr1 Fm288 213 rfl).trans ((fr1 Fm218 213 rfl).trans (fr1 Fm209 213 rfl))))] at h299
                    refine T_ld 164 (.ref 178) rfl (fun _ => rfl) ?_
                    refine T_ld 165 (.ref (tbr (m.1 219))) rfl (fun _ => rfl) ?_
                    refine T_callx 168 133 [.ref 178, .ref (tbr (m.1 219))] [] rfl (fun _ => rfl) rfl rfl (c_rd_defaultLine w (mO m297 [] []) c N D (by omega) Tm297 (m.1 219) (r32 (by omega) (by omega)) (show KPp (m297.1 203) (m297.2 8) (m297.2 9) (m297.1 214) (m297.1 215) (m297.1 216) (m297.1 217) (m297.1 221) (m297.1 223) (m297.1 219) by rewrite [(show (m297.1 203) = (m11.1 203) from ((fr1 Fm297 203 rfl).trans ((fr1 Fm288 203 rfl).trans ((fr1 Fm218 203 rfl).trans ((fr1 Fm209 203 rfl).trans ((fr1 Fm37 203 rfl).trans ((fr1 Fm29 203 rfl).trans (fr1 Fm23 203 rfl)))))))), (show (m297.2 8) = (m11.2 8) from ((fr2 Fm297 8 rfl).trans ((fr2 Fm288 8 rfl).trans ((fr2 Fm218 8 rfl).trans ((fr2 Fm209 8 rfl).trans ((fr2 Fm37 8 rfl).trans ((fr2 Fm29 8 rfl).trans (fr2 Fm23 8 rfl)))))))), (show (m297.2 9) = (m11.2 9) from ((fr2 Fm297 9 rfl).trans ((fr2 Fm288 9 rfl).trans ((fr2 Fm218 9 rfl).trans ((fr2 Fm209 9 rfl).trans ((fr2 Fm37 9 rfl).trans ((fr2 Fm29 9 rfl).trans (fr2 Fm23 9 rfl)))))))), (show (m297.1 214) = (m.1 214) from ((fr1 Fm297 214 rfl).trans ((fr1 Fm288 214 rfl).trans ((fr1 Fm218 214 rfl).trans ((fr1 Fm209 214 rfl).trans ((fr1 Fm37 214 rfl).trans ((fr1 Fm29 214 rfl).trans ((fr1 Fm23 214 rfl).trans ((fr1 Fm11 214 rfl).trans (fr1 Fm3 214 rfl)))))))))), (show (m297.1 215) = (m.1 215) from ((fr1 Fm297 215 rfl).trans ((fr1 Fm288 215 rfl).trans ((fr1 Fm218 215 rfl).trans ((fr1 Fm209 215 rfl).trans ((fr1 Fm37 215 rfl).trans ((fr1 Fm29 215 rfl).trans ((fr1 Fm23 215 rfl).trans ((fr1 Fm11 215 rfl).trans (fr1 Fm3 215 rfl)))))))))), (show (m297.1 216) = (m.1 216) from ((fr1 Fm297 216 rfl).trans ((fr1 Fm288 216 rfl).trans ((fr1 Fm218 216 rfl).trans ((fr1 Fm209 216 rfl).trans ((fr1 Fm37 216 rfl).trans ((fr1 Fm29 216 rfl).trans ((fr1 Fm23 216 rfl).trans ((fr1 Fm11 216 rfl).trans (fr1 Fm3 216 rfl)))))))))), (show (m297.1 217) = (m.1 217) from ((fr1 Fm297 217 rfl).trans ((fr1 Fm288 217 rfl).trans ((fr1 Fm218 217 rfl).trans ((fr1 Fm209 217 rfl).trans ((fr1 Fm37 217 rfl).trans ((fr1 Fm29 217 rfl).trans ((fr1 Fm23 217 rfl).trans ((fr1 Fm11 217 rfl).trans (fr1 Fm3 217 rfl)))))))))), (show (m297.1 221) = (m.1 221) from ((fr1 Fm297 221 rfl).trans ((fr1 Fm288 221 rfl).trans ((fr1 Fm218 221 rfl).trans ((fr1 Fm209 221 rfl).trans ((fr1 Fm37 221 rfl).trans ((fr1 Fm29 221 rfl).trans ((fr1 Fm23 221 rfl).trans ((fr1 Fm11 221 rfl).trans (fr1 Fm3 221 rfl)))))))))), (show (m297.1 223) = (m.1 223) from ((fr1 Fm297 223 rfl).trans ((fr1 Fm288 223 rfl).trans ((fr1 Fm218 223 rfl).trans ((fr1 Fm209 223 rfl).trans ((fr1 Fm37 223 rfl).trans ((fr1 Fm29 223 rfl).trans ((fr1 Fm23 223 rfl).trans ((fr1 Fm11 223 rfl).trans (fr1 Fm3 223 rfl)))))))))), (show (m297.1 219) = ((m.1 219) + 1) from ((fr1 Fm297 219 rfl).trans ((fr1 Fm288 219 rfl).trans ((fr1 Fm218 219 rfl).trans ((fr1 Fm209 219 rfl).trans ((fr1 Fm37 219 rfl).trans ((fr1 Fm29 219 rfl).trans (fr1 Fm23 219 rfl))))))))]; exact pKP) (show 0 ≤ (m.1 219) ∧ (m.1 219) ≤ 7 by omega) (show LTp (m.1 219) (m297.2 74) (m297.1 223) by rewrite [(show (m297.2 74) = (m.2 74) from ((fr2 Fm297 74 rfl).trans ((fr2 Fm288 74 rfl).trans ((fr2 Fm218 74 rfl).trans ((fr2 Fm209 74 rfl).trans ((fr2 Fm37 74 rfl).trans ((fr2 Fm29 74 rfl).trans ((fr2 Fm23 74 rfl).trans ((fr2 Fm11 74 rfl).trans (fr2 Fm3 74 rfl)))))))))), (show (m297.1 223) = (m.1 223) from ((fr1 Fm297 223 rfl).trans ((fr1 Fm288 223 rfl).trans ((fr1 Fm218 223 rfl).trans ((fr1 Fm209 223 rfl).trans ((fr1 Fm37 223 rfl).trans ((fr1 Fm29 223 rfl).trans ((fr1 Fm23 223 rfl).trans ((fr1 Fm11 223 rfl).trans (fr1 Fm3 223 rfl))))))))))]; exact hTD)) (fun rr304 k305 => ?_)
                    rcases k305 with ⟨m306, Tm306, Fm306, h307, rfl⟩ | ⟨xx310, m308, hx309, Tm308, Fm308, rfl⟩
                    rotate_left
                    · skip
                      refine Or.inr ⟨_, _, _, _, rfl, ?_⟩
                      exact Or.inr ⟨xx310, (mO m308 [] []), (hx309), Tm308, (fr_m (fr_s Fm308 (fr_m (fr_s Fm297 (fr_m (fr_s Fm288 (fr_m (fr_s Fm218 (fr_m (fr_s Fm209 (fr_m (fr_s Fm37 (fr_m (fr_s Fm29 (fr_m (fr_s Fm23 (fr_m (fr_s Fm11 (fr_m (fr_s Fm3 (fr_m fr_0 rfl rfl) rfl rfl) rfl rfl) rfl rfl) rfl rfl) rfl rfl) rfl rfl) rfl rfl) rfl rfl) rfl rfl) rfl rfl) rfl rfl) rfl rfl) rfl rfl) rfl rfl) rfl rfl) rfl rfl) rfl rfl) rfl rfl) rfl rfl) rfl rfl), (show NKp (m308.2 18) (m308.2 19) by rewrite [(show (m308.2 18) = (m37.2 18) from ((fr2 Fm308 18 rfl).trans ((fr2 Fm297 18 rfl).trans ((fr2 Fm288 18 rfl).trans ((fr2 Fm218 18 rfl).trans (fr2 Fm209 18 rfl)))))), (show (m308.2 19) = (m37.2 19) from ((fr2 Fm308 19 rfl).trans ((fr2 Fm297 19 rfl).trans ((fr2 Fm288 19 rfl).trans ((fr2 Fm218 19 rfl).trans (fr2 Fm209 19 rfl))))))]; exact hNK), rfl⟩
                    refine Or.inl ⟨_, _, _, _, rfl, ?_⟩
                    refine K_nb (st' := []) rfl ?_
                    have g311 : (-1) ≤ m306.1 206 ∧ m306.1 206 ≤ 65535 := Tm306.1 206
                    replace h307 : LTp ((m.1 219) + 1) (m306.2 74) (m297.1 223) := h307
                    rewrite [(show (m297.1 223) = (m.1 223) from ((fr1 Fm297 223 rfl).trans ((fr1 Fm288 223 rfl).trans ((fr1 Fm218 223 rfl).trans ((fr1 Fm209 223 rfl).trans ((fr1 Fm37 223 rfl).trans ((fr1 Fm29 223 rfl).trans ((fr1 Fm23 223 rfl).trans ((fr1 Fm11 223 rfl).trans (fr1 Fm3 223 rfl))))))))))] at h307
                    have hTD := h307
                    refine T_ld 169 (.ref 178) rfl (fun _ => rfl) ?_
                    refine K_gf 172 (.ref 6) rfl rfl kd_178 rfl rfl rfl ?_
                    refine T_ld 175 (.int (i32 316)) rfl (fun _ => rfl) ?_
                    refine T_callx 178 78 [.ref 6, .int (i32 316)] [] rfl (fun _ => rfl) rfl rfl (c_tx_expect w (mO m306 [] []) c N D (by omega) Tm306 316 ⟨by decide, by decide⟩) (fun rr312 k313 => ?_)
                    rcases k313 with ⟨m314, Tm314, Fm314, h315, h316, rfl⟩ | ⟨xx319, m317, hx318, Tm317, Fm317, rfl⟩
                    rotate_left
                    · skip
                      refine Or.inr ⟨_, _, _, _, rfl, ?_⟩
                      exact Or.inr ⟨xx319, (mO m317 [] []), (hx318), Tm317, (fr_m (fr_s Fm317 (fr_m (fr_s Fm306 (fr_m (fr_s Fm297 (fr_m (fr_s Fm288 (fr_m (fr_s Fm218 (fr_m (fr_s Fm209 (fr_m (fr_s Fm37 (fr_m (fr_s Fm29 (fr_m (fr_s Fm23 (fr_m (fr_s Fm11 (fr_m (fr_s Fm3 (fr_m fr_0 rfl rfl) rfl rfl) rfl rfl) rfl rfl) rfl rfl) rfl rfl) rfl rfl) rfl rfl) rfl rfl) rfl rfl) rfl rfl) rfl rfl) rfl rfl) rfl rfl) rfl rfl) rfl rfl) rfl rfl) rfl rfl) rfl rfl) rfl rfl) rfl rfl) rfl rfl) rfl rfl), (show NKp (m317.2 18) (m317.2 19) by rewrite [(show (m317.2 18) = (m37.2 18) from ((fr2 Fm317 18 rfl).trans ((fr2 Fm306 18 rfl).trans ((fr2 Fm297 18 rfl).trans ((fr2 Fm288 18 rfl).trans ((fr2 Fm218 18 rfl).trans (fr2 Fm209 18 rfl))))))), (show (m317.2 19) = (m37.2 19) from ((fr2 Fm317 19 rfl).trans ((fr2 Fm306 19 rfl).trans ((fr2 Fm297 19 rfl).trans ((fr2 Fm288 19 rfl).trans ((fr2 Fm218 19 rfl).trans (fr2 Fm209 19 rfl)))))))]; exact hNK), rfl⟩
                    refine Or.inl ⟨_, _, _, _, rfl, ?_⟩
                    refine K_nb (st' := []) rfl ?_
                    have g320 : (-1) ≤ m314.1 206 ∧ m314.1 206 ≤ 65535 := Tm314.1 206
                    replace h315 : (m306.1 206) = (316 : Int) := h315
                    replace h316 : (m306.1 213) = 0 := h316
                    rewrite [(show (m306.1 213) = (m37.1 213) from ((fr1 Fm306 213 rfl).trans ((fr1 Fm297 213 rfl).trans ((fr1 Fm288 213 rfl).trans ((fr1 Fm218 213 rfl).trans (fr1 Fm209 213 rfl))))))] at h316
                    refine T_ld 179 (.ref 178) rfl (fun _ => rfl) ?_
                    refine T_ld 180 (.ref (tbr (m.1 219))) rfl (fun _ => rfl) ?_
                    refine T_callx 183 134 [.ref 178, .ref (tbr (m.1 219))] [] rfl (fun _ => rfl) rfl rfl (c_rd_roomLine w (mO m314 [] []) c N D (by omega) Tm314 (m.1 219) (r32 (by omega) (by omega)) (show 0 ≤ (m.1 219) ∧ (m.1 219) ≤ 7 by omega)) (fun rr321 k322 => ?_)
                    rcases k322 with ⟨m323, Tm323, Fm323, rfl⟩ | ⟨xx326, m324, hx325, Tm324, Fm324, rfl⟩
                    rotate_left
                    · skip
                      refine Or.inr ⟨_, _, _, _, rfl, ?_⟩
                      exact Or.inr ⟨xx326, (mO m324 [] []), (hx325), Tm324, (fr_m (fr_s Fm324 (fr_m (fr_s Fm314 (fr_m (fr_s Fm306 (fr_m (fr_s Fm297 (fr_m (fr_s Fm288 (fr_m (fr_s Fm218 (fr_m (fr_s Fm209 (fr_m (fr_s Fm37 (fr_m (fr_s Fm29 (fr_m (fr_s Fm23 (fr_m (fr_s Fm11 (fr_m (fr_s Fm3 (fr_m fr_0 rfl rfl) rfl rfl) rfl rfl) rfl rfl) rfl rfl) rfl rfl) rfl rfl) rfl rfl) rfl rfl) rfl rfl) rfl rfl) rfl rfl) rfl rfl) rfl rfl) rfl rfl) rfl rfl) rfl rfl) rfl rfl) rfl rfl) rfl rfl) rfl rfl) rfl rfl) rfl rfl) rfl rfl) rfl rfl), (show NKp (m324.2 18) (m324.2 19) by rewrite [(show (m324.2 18) = (m37.2 18) from ((fr2 Fm324 18 rfl).trans ((fr2 Fm314 18 rfl).trans ((fr2 Fm306 18 rfl).trans ((fr2 Fm297 18 rfl).trans ((fr2 Fm288 18 rfl).trans ((fr2 Fm218 18 rfl).trans (fr2 Fm209 18 rfl)))))))), (show (m324.2 19) = (m37.2 19) from ((fr2 Fm324 19 rfl).trans ((fr2 Fm314 19 rfl).trans ((fr2 Fm306 19 rfl).trans ((fr2 Fm297 19 rfl).trans ((fr2 Fm288 19 rfl).trans ((fr2 Fm218 19 rfl).trans (fr2 Fm209 19 rfl))))))))]; exact hNK), rfl⟩
                    refine Or.inl ⟨_, _, _, _, rfl, ?_⟩
                    refine K_nb (st' := []) rfl ?_
                    have g327 : (-1) ≤ m323.1 206 ∧ m323.1 206 ≤ 65535 := Tm323.1 206
                    refine T_ld 184 (.ref 178) rfl (fun _ => rfl) ?_
                    refine K_gf 187 (.ref 6) rfl rfl kd_178 rfl rfl rfl ?_
                    refine T_ld 189 (.int (i32 125)) rfl (fun _ => rfl) ?_
                    refine T_callx 192 78 [.ref 6, .int (i32 125)] [] rfl (fun _ => rfl) rfl rfl (c_tx_expect w (mO m323 [] []) c N D (by omega) Tm323 125 ⟨by decide, by decide⟩) (fun rr328 k329 => ?_)
                    rcases k329 with ⟨m330, Tm330, Fm330, h331, h332, rfl⟩ | ⟨xx335, m333, hx334, Tm333, Fm333, rfl⟩
                    rotate_left
                    · skip
                      refine Or.inr ⟨_, _, _, _, rfl, ?_⟩
                      exact Or.inr ⟨xx335, (mO m333 [] []), (hx334), Tm333, (fr_m (fr_s Fm333 (fr_m (fr_s Fm323 (fr_m (fr_s Fm314 (fr_m (fr_s Fm306 (fr_m (fr_s Fm297 (fr_m (fr_s Fm288 (fr_m (fr_s Fm218 (fr_m (fr_s Fm209 (fr_m (fr_s Fm37 (fr_m (fr_s Fm29 (fr_m (fr_s Fm23 (fr_m (fr_s Fm11 (fr_m (fr_s Fm3 (fr_m fr_0 rfl rfl) rfl rfl) rfl rfl) rfl rfl) rfl rfl) rfl rfl) rfl rfl) rfl rfl) rfl rfl) rfl rfl) rfl rfl) rfl rfl) rfl rfl) rfl rfl) rfl rfl) rfl rfl) rfl rfl) rfl rfl) rfl rfl) rfl rfl) rfl rfl) rfl rfl) rfl rfl) rfl rfl) rfl rfl) rfl rfl) rfl rfl), (show NKp (m333.2 18) (m333.2 19) by rewrite [(show (m333.2 18) = (m37.2 18) from ((fr2 Fm333 18 rfl).trans ((fr2 Fm323 18 rfl).trans ((fr2 Fm314 18 rfl).trans ((fr2 Fm306 18 rfl).trans ((fr2 Fm297 18 rfl).trans ((fr2 Fm288 18 rfl).trans ((fr2 Fm218 18 rfl).trans (fr2 Fm209 18 rfl))))))))), (show (m333.2 19) = (m37.2 19) from ((fr2 Fm333 19 rfl).trans ((fr2 Fm323 19 rfl).trans ((fr2 Fm314 19 rfl).trans ((fr2 Fm306 19 rfl).trans ((fr2 Fm297 19 rfl).trans ((fr2 Fm288 19 rfl).trans ((fr2 Fm218 19 rfl).trans (fr2 Fm209 19 rfl)))))))))]; exact hNK), rfl⟩
                    refine Or.inl ⟨_, _, _, _, rfl, ?_⟩
                    refine K_nb (st' := []) rfl ?_
                    have g336 : (-1) ≤ m330.1 206 ∧ m330.1 206 ≤ 65535 := Tm330.1 206
                    replace h331 : (m323.1 206) = (125 : Int) := h331
                    replace h332 : (m323.1 213) = 0 := h332
                    rewrite [(show (m323.1 213) = (m37.1 213) from ((fr1 Fm323 213 rfl).trans ((fr1 Fm314 213 rfl).trans ((fr1 Fm306 213 rfl).trans ((fr1 Fm297 213 rfl).trans ((fr1 Fm288 213 rfl).trans ((fr1 Fm218 213 rfl).trans (fr1 Fm209 213 rfl))))))))] at h332
                    refine T_ret rfl (fun _ => rfl) ?_
                    exact Or.inl ⟨(mO m330 [] []), Tm330, (fr_m (fr_s Fm330 (fr_m (fr_s Fm323 (fr_m (fr_s Fm314 (fr_m (fr_s Fm306 (fr_m (fr_s Fm297 (fr_m (fr_s Fm288 (fr_m (fr_s Fm218 (fr_m (fr_s Fm209 (fr_m (fr_s Fm37 (fr_m (fr_s Fm29 (fr_m (fr_s Fm23 (fr_m (fr_s Fm11 (fr_m (fr_s Fm3 (fr_m fr_0 rfl rfl) rfl rfl) rfl rfl) rfl rfl) rfl rfl) rfl rfl) rfl rfl) rfl rfl) rfl rfl) rfl rfl) rfl rfl) rfl rfl) rfl rfl) rfl rfl) rfl rfl) rfl rfl) rfl rfl) rfl rfl) rfl rfl) rfl rfl) rfl rfl) rfl rfl) rfl rfl) rfl rfl) rfl rfl) rfl rfl) rfl rfl), (show KPp (m330.1 203) (m330.2 8) (m330.2 9) (m.1 214) (m.1 215) (m.1 216) (m.1 217) (m.1 221) (m.1 223) (m330.1 219) by rewrite [(show (m330.1 203) = (m11.1 203) from ((fr1 Fm330 203 rfl).trans ((fr1 Fm323 203 rfl).trans ((fr1 Fm314 203 rfl).trans ((fr1 Fm306 203 rfl).trans ((fr1 Fm297 203 rfl).trans ((fr1 Fm288 203 rfl).trans ((fr1 Fm218 203 rfl).trans ((fr1 Fm209 203 rfl).trans ((fr1 Fm37 203 rfl).trans ((fr1 Fm29 203 rfl).trans (fr1 Fm23 203 rfl)))))))))))), (show (m330.2 8) = (m11.2 8) from ((fr2 Fm330 8 rfl).trans ((fr2 Fm323 8 rfl).trans ((fr2 Fm314 8 rfl).trans ((fr2 Fm306 8 rfl).trans ((fr2 Fm297 8 rfl).trans ((fr2 Fm288 8 rfl).trans ((fr2 Fm218 8 rfl).trans ((fr2 Fm209 8 rfl).trans ((fr2 Fm37 8 rfl).trans ((fr2 Fm29 8 rfl).trans (fr2 Fm23 8 rfl)))))))))))), (show (m330.2 9) = (m11.2 9) from ((fr2 Fm330 9 rfl).trans ((fr2 Fm323 9 rfl).trans ((fr2 Fm314 9 rfl).trans ((fr2 Fm306 9 rfl).trans ((fr2 Fm297 9 rfl).trans ((fr2 Fm288 9 rfl).trans ((fr2 Fm218 9 rfl).trans ((fr2 Fm209 9 rfl).trans ((fr2 Fm37 9 rfl).trans ((fr2 Fm29 9 rfl).trans (fr2 Fm23 9 rfl)))))))))))), (show (m330.1 219) = ((m.1 219) + 1) from ((fr1 Fm330 219 rfl).trans ((fr1 Fm323 219 rfl).trans ((fr1 Fm314 219 rfl).trans ((fr1 Fm306 219 rfl).trans ((fr1 Fm297 219 rfl).trans ((fr1 Fm288 219 rfl).trans ((fr1 Fm218 219 rfl).trans ((fr1 Fm209 219 rfl).trans ((fr1 Fm37 219 rfl).trans ((fr1 Fm29 219 rfl).trans (fr1 Fm23 219 rfl))))))))))))]; first | (exact pKP) | (exfalso; omega)), (show NKp (m330.2 18) (m330.2 19) by rewrite [(show (m330.2 18) = (m37.2 18) from ((fr2 Fm330 18 rfl).trans ((fr2 Fm323 18 rfl).trans ((fr2 Fm314 18 rfl).trans ((fr2 Fm306 18 rfl).trans ((fr2 Fm297 18 rfl).trans ((fr2 Fm288 18 rfl).trans ((fr2 Fm218 18 rfl).trans (fr2 Fm209 18 rfl))))))))), (show (m330.2 19) = (m37.2 19) from ((fr2 Fm330 19 rfl).trans ((fr2 Fm323 19 rfl).trans ((fr2 Fm314 19 rfl).trans ((fr2 Fm306 19 rfl).trans ((fr2 Fm297 19 rfl).trans ((fr2 Fm288 19 rfl).trans ((fr2 Fm218 19 rfl).trans (fr2 Fm209 19 rfl)))))))))]; first | (exact hNK) | (exfalso; omega)), (show TLp (m330.1 219) (m330.2 73) (m330.2 83) (m.1 223) by rewrite [(show (m330.1 219) = ((m.1 219) + 1) from ((fr1 Fm330 219 rfl).trans ((fr1 Fm323 219 rfl).trans ((fr1 Fm314 219 rfl).trans ((fr1 Fm306 219 rfl).trans ((fr1 Fm297 219 rfl).trans ((fr1 Fm288 219 rfl).trans ((fr1 Fm218 219 rfl).trans ((fr1 Fm209 219 rfl).trans ((fr1 Fm37 219 rfl).trans ((fr1 Fm29 219 rfl).trans (fr1 Fm23 219 rfl)))))))))))), (show (m330.2 73) = (m218.2 73) from ((fr2 Fm330 73 rfl).trans ((fr2 Fm323 73 rfl).trans ((fr2 Fm314 73 rfl).trans ((fr2 Fm306 73 rfl).trans ((fr2 Fm297 73 rfl).trans (fr2 Fm288 73 rfl))))))), (show (m330.2 83) = (m218.2 83) from ((fr2 Fm330 83 rfl).trans ((fr2 Fm323 83 rfl).trans ((fr2 Fm314 83 rfl).trans ((fr2 Fm306 83 rfl).trans ((fr2 Fm297 83 rfl).trans (fr2 Fm288 83 rfl)))))))]; first | (exact hTL) | (exfalso; omega)), (show LTp (m330.1 219) (m330.2 74) (m.1 223) by rewrite [(show (m330.1 219) = ((m.1 219) + 1) from ((fr1 Fm330 219 rfl).trans ((fr1 Fm323 219 rfl).trans ((fr1 Fm314 219 rfl).trans ((fr1 Fm306 219 rfl).trans ((fr1 Fm297 219 rfl).trans ((fr1 Fm288 219 rfl).trans ((fr1 Fm218 219 rfl).trans ((fr1 Fm209 219 rfl).trans ((fr1 Fm37 219 rfl).trans ((fr1 Fm29 219 rfl).trans (fr1 Fm23 219 rfl)))))))))))), (show (m330.2 74) = (m306.2 74) from ((fr2 Fm330 74 rfl).trans ((fr2 Fm323 74 rfl).trans (fr2 Fm314 74 rfl))))]; first | (exact hTD) | (exfalso; omega)), (show ZHp (m330.1 219) (m330.2 78) by rewrite [(show (m330.1 219) = ((m.1 219) + 1) from ((fr1 Fm330 219 rfl).trans ((fr1 Fm323 219 rfl).trans ((fr1 Fm314 219 rfl).trans ((fr1 Fm306 219 rfl).trans ((fr1 Fm297 219 rfl).trans ((fr1 Fm288 219 rfl).trans ((fr1 Fm218 219 rfl).trans ((fr1 Fm209 219 rfl).trans ((fr1 Fm37 219 rfl).trans ((fr1 Fm29 219 rfl).trans (fr1 Fm23 219 rfl)))))))))))), (show (m330.2 78) = (m23.2 78) from ((fr2 Fm330 78 rfl).trans ((fr2 Fm323 78 rfl).trans ((fr2 Fm314 78 rfl).trans ((fr2 Fm306 78 rfl).trans ((fr2 Fm297 78 rfl).trans ((fr2 Fm288 78 rfl).trans ((fr2 Fm218 78 rfl).trans ((fr2 Fm209 78 rfl).trans ((fr2 Fm37 78 rfl).trans (fr2 Fm29 78 rfl)))))))))))]; first | (exact hZH) | (exfalso; omega)), rfl⟩
                  · skip
                    refine T_ld 127 (.ref 178) rfl (fun _ => rfl) ?_
                    refine T_ld 128 (.ref (tbr (m.1 219))) rfl (fun _ => rfl) ?_
                    refine T_ld 130 (.int (i32 v217)) rfl (fun _ => rfl) ?_
                    refine T_callx 133 131 [.ref 178, .ref (tbr (m.1 219)), .int (i32 v217)] [] rfl (fun _ => rfl) rfl rfl (c_rd_listedAction w (mO m218 [] []) c N D (by omega) Tm218 (m.1 219) v217 (r32 (by omega) (by omega)) (r32 (by omega) (by omega)) (show KPp (m218.1 203) (m218.2 8) (m218.2 9) (m218.1 214) (m218.1 215) (m218.1 216) (m218.1 217) (m218.1 221) (m218.1 223) (m218.1 219) by rewrite [(show (m218.1 203) = (m11.1 203) from ((fr1 Fm218 203 rfl).trans ((fr1 Fm209 203 rfl).trans ((fr1 Fm37 203 rfl).trans ((fr1 Fm29 203 rfl).trans (fr1 Fm23 203 rfl)))))), (show (m218.2 8) = (m11.2 8) from ((fr2 Fm218 8 rfl).trans ((fr2 Fm209 8 rfl).trans ((fr2 Fm37 8 rfl).trans ((fr2 Fm29 8 rfl).trans (fr2 Fm23 8 rfl)))))), (show (m218.2 9) = (m11.2 9) from ((fr2 Fm218 9 rfl).trans ((fr2 Fm209 9 rfl).trans ((fr2 Fm37 9 rfl).trans ((fr2 Fm29 9 rfl).trans (fr2 Fm23 9 rfl)))))), (show (m218.1 214) = (m.1 214) from ((fr1 Fm218 214 rfl).trans ((fr1 Fm209 214 rfl).trans ((fr1 Fm37 214 rfl).trans ((fr1 Fm29 214 rfl).trans ((fr1 Fm23 214 rfl).trans ((fr1 Fm11 214 rfl).trans (fr1 Fm3 214 rfl)))))))), (show (m218.1 215) = (m.1 215) from ((fr1 Fm218 215 rfl).trans ((fr1 Fm209 215 rfl).trans ((fr1 Fm37 215 rfl).trans ((fr1 Fm29 215 rfl).trans ((fr1 Fm23 215 rfl).trans ((fr1 Fm11 215 rfl).trans (fr1 Fm3 215 rfl)))))))), (show (m218.1 216) = (m.1 216) from ((fr1 Fm218 216 rfl).trans ((fr1 Fm209 216 rfl).trans ((fr1 Fm37 216 rfl).trans ((fr1 Fm29 216 rfl).trans ((fr1 Fm23 216 rfl).trans ((fr1 Fm11 216 rfl).trans (fr1 Fm3 216 rfl)))))))), (show (m218.1 217) = (m.1 217) from ((fr1 Fm218 217 rfl).trans ((fr1 Fm209 217 rfl).trans ((fr1 Fm37 217 rfl).trans ((fr1 Fm29 217 rfl).trans ((fr1 Fm23 217 rfl).trans ((fr1 Fm11 217 rfl).trans (fr1 Fm3 217 rfl)))))))), (show (m218.1 221) = (m.1 221) from ((fr1 Fm218 221 rfl).trans ((fr1 Fm209 221 rfl).trans ((fr1 Fm37 221 rfl).trans ((fr1 Fm29 221 rfl).trans ((fr1 Fm23 221 rfl).trans ((fr1 Fm11 221 rfl).trans (fr1 Fm3 221 rfl)))))))), (show (m218.1 223) = (m.1 223) from ((fr1 Fm218 223 rfl).trans ((fr1 Fm209 223 rfl).trans ((fr1 Fm37 223 rfl).trans ((fr1 Fm29 223 rfl).trans ((fr1 Fm23 223 rfl).trans ((fr1 Fm11 223 rfl).trans (fr1 Fm3 223 rfl)))))))), (show (m218.1 219) = ((m.1 219) + 1) from ((fr1 Fm218 219 rfl).trans ((fr1 Fm209 219 rfl).trans ((fr1 Fm37 219 rfl).trans ((fr1 Fm29 219 rfl).trans (fr1 Fm23 219 rfl))))))]; exact pKP) (show 0 ≤ (m.1 219) ∧ (m.1 219) ≤ 7 by omega) (show 0 ≤ v217 ∧ v217 ≤ 8 by omega) (show (m218.2 73) (m.1 219) = v217 by omega) (show TLp (m218.1 219) (m218.2 73) (m218.2 83) (m218.1 223) by rewrite [(show (m218.1 219) = ((m.1 219) + 1) from ((fr1 Fm218 219 rfl).trans ((fr1 Fm209 219 rfl).trans ((fr1 Fm37 219 rfl).trans ((fr1 Fm29 219 rfl).trans (fr1 Fm23 219 rfl)))))), (show (m218.1 223) = (m.1 223) from ((fr1 Fm218 223 rfl).trans ((fr1 Fm209 223 rfl).trans ((fr1 Fm37 223 rfl).trans ((fr1 Fm29 223 rfl).trans ((fr1 Fm23 223 rfl).trans ((fr1 Fm11 223 rfl).trans (fr1 Fm3 223 rfl))))))))]; exact hTL)) (fun rr337 k338 => ?_)
                    rcases k338 with ⟨m339, Tm339, Fm339, h340, h341, rfl⟩ | ⟨xx344, m342, hx343, Tm342, Fm342, rfl⟩
                    rotate_left
                    · skip
                      refine Or.inr ⟨_, _, _, _, rfl, ?_⟩
                      exact Or.inr ⟨xx344, (mO m342 [] []), (hx343), Tm342, (fr_m (fr_s Fm342 (fr_m (fr_s Fm218 (fr_m (fr_s Fm209 (fr_m (fr_s Fm37 (fr_m (fr_s Fm29 (fr_m (fr_s Fm23 (fr_m (fr_s Fm11 (fr_m (fr_s Fm3 (fr_m fr_0 rfl rfl) rfl rfl) rfl rfl) rfl rfl) rfl rfl) rfl rfl) rfl rfl) rfl rfl) rfl rfl) rfl rfl) rfl rfl) rfl rfl) rfl rfl) rfl rfl) rfl rfl) rfl rfl) rfl rfl), (show NKp (m342.2 18) (m342.2 19) by rewrite [(show (m342.2 18) = (m37.2 18) from ((fr2 Fm342 18 rfl).trans ((fr2 Fm218 18 rfl).trans (fr2 Fm209 18 rfl)))), (show (m342.2 19) = (m37.2 19) from ((fr2 Fm342 19 rfl).trans ((fr2 Fm218 19 rfl).trans (fr2 Fm209 19 rfl))))]; exact hNK), rfl⟩
                    refine Or.inl ⟨_, _, _, _, rfl, ?_⟩
                    refine K_nb (st' := []) rfl ?_
                    have g345 : (-1) ≤ m339.1 206 ∧ m339.1 206 ≤ 65535 := Tm339.1 206
                    replace h340 : (m339.2 73) (m.1 219) = v217 + 1 := h340
                    have hLk := h340
                    replace h341 : TLp (m218.1 219) (m339.2 73) (m339.2 83) (m218.1 223) := h341
                    rewrite [(show (m218.1 219) = ((m.1 219) + 1) from ((fr1 Fm218 219 rfl).trans ((fr1 Fm209 219 rfl).trans ((fr1 Fm37 219 rfl).trans ((fr1 Fm29 219 rfl).trans (fr1 Fm23 219 rfl)))))), (show (m218.1 223) = (m.1 223) from ((fr1 Fm218 223 rfl).trans ((fr1 Fm209 223 rfl).trans ((fr1 Fm37 223 rfl).trans ((fr1 Fm29 223 rfl).trans ((fr1 Fm23 223 rfl).trans ((fr1 Fm11 223 rfl).trans (fr1 Fm3 223 rfl))))))))] at h341
                    have hTL := h341
                    refine T_ld 134 (.ref 178) rfl (fun _ => rfl) ?_
                    refine T_callx 137 120 [.ref 178] [] rfl (fun _ => rfl) rfl rfl (c_rd_goesOnList w (mO m339 [] []) c N D (by omega) Tm339 ) (fun rr346 k347 => ?_)
                    rcases k347 with ⟨m348, gl, Tm348, Fm348, g349, rfl⟩ | ⟨xx352, m350, hx351, Tm350, Fm350, rfl⟩
                    rotate_left
                    · skip
                      refine Or.inr ⟨_, _, _, _, rfl, ?_⟩
                      exact Or.inr ⟨xx352, (mO m350 [] []), (hx351), Tm350, (fr_m (fr_s Fm350 (fr_m (fr_s Fm339 (fr_m (fr_s Fm218 (fr_m (fr_s Fm209 (fr_m (fr_s Fm37 (fr_m (fr_s Fm29 (fr_m (fr_s Fm23 (fr_m (fr_s Fm11 (fr_m (fr_s Fm3 (fr_m fr_0 rfl rfl) rfl rfl) rfl rfl) rfl rfl) rfl rfl) rfl rfl) rfl rfl) rfl rfl) rfl rfl) rfl rfl) rfl rfl) rfl rfl) rfl rfl) rfl rfl) rfl rfl) rfl rfl) rfl rfl) rfl rfl) rfl rfl), (show NKp (m350.2 18) (m350.2 19) by rewrite [(show (m350.2 18) = (m37.2 18) from ((fr2 Fm350 18 rfl).trans ((fr2 Fm339 18 rfl).trans ((fr2 Fm218 18 rfl).trans (fr2 Fm209 18 rfl))))), (show (m350.2 19) = (m37.2 19) from ((fr2 Fm350 19 rfl).trans ((fr2 Fm339 19 rfl).trans ((fr2 Fm218 19 rfl).trans (fr2 Fm209 19 rfl)))))]; exact hNK), rfl⟩
                    refine Or.inl ⟨_, _, _, _, rfl, ?_⟩
                    refine K_nb (st' := [.int (i32 gl)]) rfl ?_
                    obtain ⟨g349a, g349b⟩ := g349
                    have g353 : (-1) ≤ m348.1 206 ∧ m348.1 206 ≤ 65535 := Tm348.1 206
                    refine T_sto 138 [(3, .int (i32 gl)), (0, .ref 178), (2, .ref (tbr (m.1 219))), (4, .int (i32 v217))] rfl (fun _ => rfl) ?_
                    refine T_iinc 141 [(4, .int (i32 (v217 + 1))), (3, .int (i32 gl)), (0, .ref 178), (2, .ref (tbr (m.1 219)))] rfl rfl (by decide) rfl rfl ?_
                    refine T_goto 115 rfl (fun _ => rfl) ?_
                    refine Tm_lv (a := [(0, .ref 178), (2, .ref (tbr (m.1 219))), (3, .int (i32 gl)), (4, .int (i32 (v217 + 1)))]) rfl rfl ⟨rfl, rfl, rfl, rfl, trivial⟩ ?_
                    exact ih232 gl (v217 + 1) (mO m348 [] []) (r32 (by omega) (by omega)) (r32 (by omega) (by omega)) Tm348 (fr_m (fr_s Fm348 (fr_m (fr_s Fm339 (fr_m (fr_s Fm218 (fr_m fr_0 rfl rfl) rfl rfl) rfl rfl) rfl rfl) rfl rfl) rfl rfl) rfl rfl) (show 0 ≤ gl by omega) (show gl ≤ 1 by omega) (show 0 ≤ (v217 + 1) by omega) (show gl = 0 ∨ gl = 1 by omega) (show 0 ≤ (v217 + 1) ∧ (v217 + 1) ≤ 9 by omega) (show (m348.2 73) (m.1 219) = (v217 + 1) by rewrite [(show (m348.2 73) = (m339.2 73) from (fr2 Fm348 73 rfl))]; first | exact hLk | (rw [hLc]; exact upI_s)) (show TLp ((m.1 219) + 1) (m348.2 73) (m348.2 83) (m.1 223) by rewrite [(show (m348.2 73) = (m339.2 73) from (fr2 Fm348 73 rfl)), (show (m348.2 83) = (m339.2 83) from (fr2 Fm348 83 rfl))]; exact hTL) (show 12 - (v217 + 1) < (n231 : Int) by omega)
            refine Tm_lv (a := [(0, .ref 178), (2, .ref (tbr (m.1 219))), (3, .int (i32 1)), (4, .int (i32 0))]) rfl rfl ⟨rfl, rfl, rfl, rfl, trivial⟩ ?_
            exact L115_219 ((12 - (0 : Int) : Int) + 1).toNat 1 0 (mO m209 [] []) ⟨by decide, by decide⟩ ⟨by decide, by decide⟩ Tm209 (fr_m fr_0 rfl rfl) (show 0 ≤ (1 : Int) by omega) (show (1 : Int) ≤ 1 by omega) (show 0 ≤ (0 : Int) by omega) (show (1 : Int) = 0 ∨ (1 : Int) = 1 by omega) (show 0 ≤ (0 : Int) ∧ (0 : Int) ≤ 9 by omega) (show (m209.2 73) (m.1 219) = (0 : Int) by rewrite [(show (m209.2 73) = (m23.2 73) from ((fr2 Fm209 73 rfl).trans ((fr2 Fm37 73 rfl).trans (fr2 Fm29 73 rfl))))]; first | exact hLk | (rw [hLc]; exact upI_s)) (show TLp ((m.1 219) + 1) (m209.2 73) (m209.2 83) (m.1 223) by rewrite [(show (m209.2 73) = (m23.2 73) from ((fr2 Fm209 73 rfl).trans ((fr2 Fm37 73 rfl).trans (fr2 Fm29 73 rfl)))), (show (m209.2 83) = (m.2 83) from ((fr2 Fm209 83 rfl).trans ((fr2 Fm37 83 rfl).trans ((fr2 Fm29 83 rfl).trans ((fr2 Fm23 83 rfl).trans ((fr2 Fm11 83 rfl).trans (fr2 Fm3 83 rfl)))))))]; exact hTL) (show 12 - (0 : Int) < ((((12 - (0 : Int) : Int) + 1).toNat : Nat) : Int) by omega)
          · skip
            refine T_ld 89 (.ref 178) rfl (fun _ => rfl) ?_
            refine T_ld 90 (.ref (tbr (m.1 219))) rfl (fun _ => rfl) ?_
            refine T_ld 91 (.int (i32 v36)) rfl (fun _ => rfl) ?_
            refine T_callx 94 129 [.ref 178, .ref (tbr (m.1 219)), .int (i32 v36)] [] rfl (fun _ => rfl) rfl rfl (c_rd_keyLine w (mO m37 [] []) c N D (by omega) Tm37 (m.1 219) v36 (r32 (by omega) (by omega)) (r32 (by omega) (by omega)) (show KPp (m37.1 203) (m37.2 8) (m37.2 9) (m37.1 214) (m37.1 215) (m37.1 216) (m37.1 217) (m37.1 221) (m37.1 223) (m37.1 219) by rewrite [(show (m37.1 203) = (m11.1 203) from ((fr1 Fm37 203 rfl).trans ((fr1 Fm29 203 rfl).trans (fr1 Fm23 203 rfl)))), (show (m37.2 8) = (m11.2 8) from ((fr2 Fm37 8 rfl).trans ((fr2 Fm29 8 rfl).trans (fr2 Fm23 8 rfl)))), (show (m37.2 9) = (m11.2 9) from ((fr2 Fm37 9 rfl).trans ((fr2 Fm29 9 rfl).trans (fr2 Fm23 9 rfl)))), (show (m37.1 214) = (m.1 214) from ((fr1 Fm37 214 rfl).trans ((fr1 Fm29 214 rfl).trans ((fr1 Fm23 214 rfl).trans ((fr1 Fm11 214 rfl).trans (fr1 Fm3 214 rfl)))))), (show (m37.1 215) = (m.1 215) from ((fr1 Fm37 215 rfl).trans ((fr1 Fm29 215 rfl).trans ((fr1 Fm23 215 rfl).trans ((fr1 Fm11 215 rfl).trans (fr1 Fm3 215 rfl)))))), (show (m37.1 216) = (m.1 216) from ((fr1 Fm37 216 rfl).trans ((fr1 Fm29 216 rfl).trans ((fr1 Fm23 216 rfl).trans ((fr1 Fm11 216 rfl).trans (fr1 Fm3 216 rfl)))))), (show (m37.1 217) = (m.1 217) from ((fr1 Fm37 217 rfl).trans ((fr1 Fm29 217 rfl).trans ((fr1 Fm23 217 rfl).trans ((fr1 Fm11 217 rfl).trans (fr1 Fm3 217 rfl)))))), (show (m37.1 221) = (m.1 221) from ((fr1 Fm37 221 rfl).trans ((fr1 Fm29 221 rfl).trans ((fr1 Fm23 221 rfl).trans ((fr1 Fm11 221 rfl).trans (fr1 Fm3 221 rfl)))))), (show (m37.1 223) = (m.1 223) from ((fr1 Fm37 223 rfl).trans ((fr1 Fm29 223 rfl).trans ((fr1 Fm23 223 rfl).trans ((fr1 Fm11 223 rfl).trans (fr1 Fm3 223 rfl)))))), (show (m37.1 219) = ((m.1 219) + 1) from ((fr1 Fm37 219 rfl).trans ((fr1 Fm29 219 rfl).trans (fr1 Fm23 219 rfl))))]; exact pKP) (show NKp (m37.2 18) (m37.2 19) by exact hNK) (show 0 ≤ (m.1 219) ∧ (m.1 219) ≤ 7 by omega) (show 0 ≤ v36 ∧ v36 ≤ 4 by omega)) (fun rr354 k355 => ?_)
            rcases k355 with ⟨m356, Tm356, Fm356, h357, rfl⟩ | ⟨xx361, m358, hx359, Tm358, Fm358, h360, rfl⟩
            rotate_left
            · skip
              refine Or.inr ⟨_, _, _, _, rfl, ?_⟩
              have hNK := h360
              exact Or.inr ⟨xx361, (mO m358 [] []), (hx359), Tm358, (fr_m (fr_s Fm358 (fr_m (fr_s Fm37 (fr_m (fr_s Fm29 (fr_m (fr_s Fm23 (fr_m (fr_s Fm11 (fr_m (fr_s Fm3 (fr_m fr_0 rfl rfl) rfl rfl) rfl rfl) rfl rfl) rfl rfl) rfl rfl) rfl rfl) rfl rfl) rfl rfl) rfl rfl) rfl rfl) rfl rfl) rfl rfl), (show NKp (m358.2 18) (m358.2 19) by exact hNK), rfl⟩
            refine Or.inl ⟨_, _, _, _, rfl, ?_⟩
            refine K_nb (st' := []) rfl ?_
            have g362 : (-1) ≤ m356.1 206 ∧ m356.1 206 ≤ 65535 := Tm356.1 206
            have g363 : 0 ≤ m356.1 213 ∧ m356.1 213 ≤ 1 := Tm356.1 213
            replace h357 : NKp (m356.2 18) (m356.2 19) := h357
            have hNK := h357
            refine T_iinc 97 [(3, .int (i32 (v36 + 1))), (0, .ref 178), (2, .ref (tbr (m.1 219)))] rfl rfl (by decide) rfl rfl ?_
            refine T_goto 66 rfl (fun _ => rfl) ?_
            refine Tm_lv (a := [(0, .ref 178), (2, .ref (tbr (m.1 219))), (3, .int (i32 (v36 + 1)))]) rfl rfl ⟨rfl, rfl, rfl, trivial⟩ ?_
            exact ih46 (v36 + 1) (mO m356 [] []) (r32 (by omega) (by omega)) Tm356 (fr_m (fr_s Fm356 (fr_m (fr_s Fm37 (fr_m fr_0 rfl rfl) rfl rfl) rfl rfl) rfl rfl) rfl rfl) (show 0 ≤ (v36 + 1) by omega) (show NKp (m356.2 18) (m356.2 19) by exact hNK) (show 0 ≤ (v36 + 1) ∧ (v36 + 1) ≤ 5 by omega) (show 12 - (v36 + 1) < (n45 : Int) by omega)
  refine Tm_lv (a := [(0, .ref 178), (2, .ref (tbr (m.1 219))), (3, .int (i32 0))]) rfl rfl ⟨rfl, rfl, rfl, trivial⟩ ?_
  exact L66_38 ((12 - (0 : Int) : Int) + 1).toNat 0 (mO m29 [] []) ⟨by decide, by decide⟩ Tm29 (fr_m fr_0 rfl rfl) (show 0 ≤ (0 : Int) by omega) (show NKp (m29.2 18) (m29.2 19) by rewrite [(show (m29.2 18) = (m.2 18) from ((fr2 Fm29 18 rfl).trans ((fr2 Fm23 18 rfl).trans ((fr2 Fm11 18 rfl).trans (fr2 Fm3 18 rfl))))), (show (m29.2 19) = (m.2 19) from ((fr2 Fm29 19 rfl).trans ((fr2 Fm23 19 rfl).trans ((fr2 Fm11 19 rfl).trans (fr2 Fm3 19 rfl)))))]; exact hNK) (show 0 ≤ (0 : Int) ∧ (0 : Int) ≤ 5 by omega) (show 12 - (0 : Int) < ((((12 - (0 : Int) : Int) + 1).toNat : Nat) : Int) by omega)
