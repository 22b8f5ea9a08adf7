def fF_exprOf : List Nat := [7, 8, 9, 10, 11, 12, 28, 69, 70, 71, 72, 73, 74, 75]
def fA_exprOf : List Nat := [65, 66, 67, 68, 76, 77, 78, 79, 80, 81, 82, 83, 84, 85, 86, 87, 88, 89, 90, 91, 92]
def Q_exprOf (m : mR) (c : Nat → Option am_C) (N : Nat) (b : Int) : ag_Re af_T → Prop := fun R => ∃ (M : mR), Ty M ∧ fr fF_exprOf fA_exprOf m M ∧ ((M.1 10) = 0 → (m.1 10) = 0) ∧ (LxP (M.1 7) (M.1 8) (M.1 9) (m.1 6) (M.1 10)) ∧ (M.1 10 = 0 → ((m.1 8) + 1 ≤ (M.1 8)) ∧ ((M.1 69) ≤ 64) ∧ ((m.1 28) ≤ (M.1 28)) ∧ (okc (M.2 65) (m.1 28) (M.1 28)) ∧ (CN (M.2 65) (M.2 67) (M.1 28)) ∧ (agr (m.2 65) (M.2 65) (m.1 28))) ∧ R = (.inl (none), (mhp M c, N), 0, 0)
set_option maxHeartbeats 3000000 in
theorem c_exprOf (w : wX) (m : mR) (c : Nat → Option am_C) (N D : Nat) (hD : 11 ≤ D) (hT : Ty m) (b : Int) (qb : R32 b) (hLx0 : LxP (m.1 7) (m.1 8) (m.1 9) (m.1 6) (m.1 10)) (hNM0 : ∀ k, (m.2 14) k + (m.2 15) k ≤ 4000) (hFA0 : ∀ k, (m.2 31) k + (m.2 32) k ≤ 4000) (hPA0 : ∀ k, (m.2 47) k + (m.2 48) k ≤ 4000) (hC : m.1 10 = 0 → (PN (m.1 13) (m.1 19) (m.1 20) (m.1 21) (m.1 22) (m.1 23) (m.1 25) (m.1 26) (m.2 16) (m.2 17)) ∧ (CN (m.2 65) (m.2 67) (m.1 28))) : TC w D 273 [.ref 189, .int (i32 b)] (mhp m c, N) (Q_exprOf m c N b) := by
  obtain ⟨D, rfl⟩ : ∃ k, D = k + 1 := ⟨D - 1, by omega⟩
  obtain ⟨qba, qbb⟩ := id qb
  have hLx := hLx0
  have hNM := hNM0
  have hFA := hFA0
  have hPA := hPA0
  have f7 : 0 ≤ m.1 7 ∧ m.1 7 ≤ 330 := hT.1 7
  have f8 : 0 ≤ m.1 8 ∧ m.1 8 ≤ 4000 := hT.1 8
  have f9 : 0 ≤ m.1 9 ∧ m.1 9 ≤ 4000 := hT.1 9
  have f10 : 0 ≤ m.1 10 ∧ m.1 10 ≤ 8 := hT.1 10
  have f28 : 0 ≤ m.1 28 ∧ m.1 28 ≤ 800 := hT.1 28
  have f69 : 0 ≤ m.1 69 ∧ m.1 69 ≤ 1024 := hT.1 69
  have f70 : 0 ≤ m.1 70 ∧ m.1 70 ≤ 4000 := hT.1 70
  have f71 : 0 ≤ m.1 71 ∧ m.1 71 ≤ 1 := hT.1 71
  have f72 : (-9223372036854775808) ≤ m.1 72 ∧ m.1 72 ≤ 9223372036854775807 := hT.1 72
  have f25 : 0 ≤ m.1 25 ∧ m.1 25 ≤ 16 := hT.1 25
  have f22 : 0 ≤ m.1 22 ∧ m.1 22 ≤ 8 := hT.1 22
  have f19 : 0 ≤ m.1 19 ∧ m.1 19 ≤ 12 := hT.1 19
  have f20 : 0 ≤ m.1 20 ∧ m.1 20 ≤ 12 := hT.1 20
  have f21 : 0 ≤ m.1 21 ∧ m.1 21 ≤ 16 := hT.1 21
  have f13 : 0 ≤ m.1 13 ∧ m.1 13 ≤ 120 := hT.1 13
  have f6 : 0 ≤ m.1 6 ∧ m.1 6 ≤ 4000 := hT.1 6
  have f23 : 0 ≤ m.1 23 ∧ m.1 23 ≤ 16 := hT.1 23
  have f26 : 0 ≤ m.1 26 ∧ m.1 26 ≤ 8 := hT.1 26
  refine Tc_of rfl ?_
  show TT w D pm_273 (0, [(0, .ref 189), (1, .int (i32 b))], [], (mhp (mO m [] []) c, N), 0, 0) (Q_exprOf m c N b)
  by_cases hf0 : m.1 10 = 0
  · skip
    obtain ⟨pPN, hCN⟩ := hC hf0
    have J50_4 : ∀ (m3 : mR), Ty m3 → fr [7, 8, 9, 10, 11, 12, 28, 69, 70, 71, 72, 73, 74, 75] [65, 66, 67, 68, 76, 77, 78, 79, 80, 81, 82, 83, 84, 85, 86, 87, 88, 89, 90, 91, 92] (mO m [] []) m3 → (1 ≤ (m3.1 10)) → TT w D pm_273 (50, [(0, .ref 189), (1, .int (i32 b))], [], (mhp (mO m3 [] []) c, N), 0, 0) (Q_exprOf m c N b) := by
      intro m3 Tm3 Fm3 ic5
      have q6_7 : 0 ≤ m3.1 7 ∧ m3.1 7 ≤ 330 := Tm3.1 7
      have q6_8 : 0 ≤ m3.1 8 ∧ m3.1 8 ≤ 4000 := Tm3.1 8
      have q6_9 : 0 ≤ m3.1 9 ∧ m3.1 9 ≤ 4000 := Tm3.1 9
      have q6_10 : 0 ≤ m3.1 10 ∧ m3.1 10 ≤ 8 := Tm3.1 10
      have q6_28 : 0 ≤ m3.1 28 ∧ m3.1 28 ≤ 800 := Tm3.1 28
      have q6_69 : 0 ≤ m3.1 69 ∧ m3.1 69 ≤ 1024 := Tm3.1 69
      have q6_70 : 0 ≤ m3.1 70 ∧ m3.1 70 ≤ 4000 := Tm3.1 70
      have q6_71 : 0 ≤ m3.1 71 ∧ m3.1 71 ≤ 1 := Tm3.1 71
      have q6_72 : (-9223372036854775808) ≤ m3.1 72 ∧ m3.1 72 ≤ 9223372036854775807 := Tm3.1 72
      refine T_ret rfl (fun _ => rfl) ?_
      exact ⟨(mO m3 [] []), Tm3, (fr_m (fr_s Fm3 (fr_m fr_0 rfl rfl) rfl rfl) rfl rfl), (show (m3.1 10) = 0 → (m.1 10) = 0 by omega), (show LxP (m3.1 7) (m3.1 8) (m3.1 9) (m.1 6) (m3.1 10) by first | (first | exact hLx | exact (fun _ => hLx (by omega)) | (intro h9; exfalso; omega)) | (exfalso; omega)), (fun (h : (m3.1 10) = 0) => absurd h (by omega)), rfl⟩
    refine T_ld 1 (.ref 189) rfl (fun _ => rfl) ?_
    refine T_call 4 244 [.ref 189] [] rfl (fun _ => rfl) rfl (c_readExpr w (mO m [] []) c N D (by omega) hT (show LxP (m.1 7) (m.1 8) (m.1 9) (m.1 6) (m.1 10) by first | exact hLx | exact (fun _ => hLx (by omega)) | (intro h9; exfalso; omega)) (show ∀ k, (m.2 14) k + (m.2 15) k ≤ 4000 by assumption) (show ∀ k, (m.2 31) k + (m.2 32) k ≤ 4000 by assumption) (show ∀ k, (m.2 47) k + (m.2 48) k ≤ 4000 by assumption) (fun _ => ⟨(show PN (m.1 13) (m.1 19) (m.1 20) (m.1 21) (m.1 22) (m.1 23) (m.1 25) (m.1 26) (m.2 16) (m.2 17) by assumption), (show CN (m.2 65) (m.2 67) (m.1 28) by assumption)⟩)) (fun rr8 k9 => ?_)
    obtain ⟨m10, Tm10, Fm10, h11, h12, c13, rfl⟩ := k9
    refine ⟨_, _, rfl, ?_⟩
    refine T_nb (st' := []) rfl ?_
    have g14 : 0 ≤ m10.1 7 ∧ m10.1 7 ≤ 330 := Tm10.1 7
    have g15 : 0 ≤ m10.1 8 ∧ m10.1 8 ≤ 4000 := Tm10.1 8
    have g16 : 0 ≤ m10.1 9 ∧ m10.1 9 ≤ 4000 := Tm10.1 9
    have g17 : 0 ≤ m10.1 10 ∧ m10.1 10 ≤ 8 := Tm10.1 10
    have g18 : 0 ≤ m10.1 28 ∧ m10.1 28 ≤ 800 := Tm10.1 28
    have g19 : 0 ≤ m10.1 69 ∧ m10.1 69 ≤ 1024 := Tm10.1 69
    have g20 : 0 ≤ m10.1 70 ∧ m10.1 70 ≤ 4000 := Tm10.1 70
    have g21 : 0 ≤ m10.1 71 ∧ m10.1 71 ≤ 1 := Tm10.1 71
    have g22 : (-9223372036854775808) ≤ m10.1 72 ∧ m10.1 72 ≤ 9223372036854775807 := Tm10.1 72
    by_cases hf23 : (m10.1 10) = 0
    · skip
      replace h11 : (m.1 10) = 0 := h11 hf23
      replace h12 : LxP (m10.1 7) (m10.1 8) (m10.1 9) (m.1 6) (m10.1 10) := h12
      have hLx := h12
      obtain ⟨c24, c25, c26, c27, c28, c29⟩ := c13 hf23
      replace c24 : (m.1 8) + 1 ≤ (m10.1 8) := c24
      replace c25 : (m10.1 69) ≤ 64 := c25
      replace c26 : (m.1 28) ≤ (m10.1 28) := c26
      replace c27 : okc (m10.2 65) (m.1 28) (m10.1 28) := c27
      have hOk := c27
      replace c28 : CN (m10.2 65) (m10.2 67) (m10.1 28) := c28
      have hCN := c28
      replace c29 : agr (m.2 65) (m10.2 65) (m.1 28) := c29
      have hAg := c29
      clear c13
      refine T_gf 8 (.int (i32 (m10.1 10))) rfl rfl rfl rfl rfl rfl ?_
      refine T_if 50 11 rfl rfl rfl (r32 (by omega) (by omega)) (fun (h30 : (m10.1 10) ≠ 0) => by exfalso; omega) (fun (h30 : ¬ ((m10.1 10) ≠ 0)) => ?_)
      refine T_ld 12 (.ref 189) rfl (fun _ => rfl) ?_
      refine T_gf 16 (.int (i32 (m10.1 71))) rfl rfl rfl rfl rfl rfl ?_
      refine T_if 30 19 rfl rfl rfl (r32 (by omega) (by omega)) (fun (h31 : (m10.1 71) = 0) => ?_) (fun (h31 : ¬ ((m10.1 71) = 0)) => ?_)
      · skip
        refine T_gf 34 (.int (i32 (m10.1 69))) rfl rfl rfl rfl rfl rfl ?_
        refine T_ld 35 (.int (i32 b)) rfl (fun _ => rfl) ?_
        refine T_icmp 42 38 rfl rfl rfl (r32 (by omega) (by omega)) (r32 (by omega) (by omega)) (fun (h32 : (m10.1 69) ≠ b) => ?_) (fun (h32 : ¬ ((m10.1 69) ≠ b)) => ?_)
        · skip
          refine T_ld 43 (.int (i32 0)) rfl (fun _ => rfl) ?_
          refine T_gf 47 (.int (i32 (m10.1 70))) rfl rfl rfl rfl rfl rfl ?_
          refine T_call 50 256 [.ref 189, .int (i32 0), .int (i32 (m10.1 70))] [] rfl (fun _ => rfl) rfl (c_want w (mO m10 [] []) c N D (by omega) Tm10 0 (m10.1 70) ⟨by decide, by decide⟩ (r32 (by omega) (by omega)) (show 0 ≤ (m10.1 70) ∧ (m10.1 70) ≤ 4000 by omega) (fun _ => trivial)) (fun rr33 k34 => ?_)
          obtain ⟨m35, Tm35, Fm35, h36, c37, rfl⟩ := k34
          refine ⟨_, _, rfl, ?_⟩
          refine T_nb (st' := []) rfl ?_
          have g38 : 0 ≤ m35.1 10 ∧ m35.1 10 ≤ 8 := Tm35.1 10
          by_cases hf39 : (m35.1 10) = 0
          · skip
            replace h36 : (m10.1 10) = 0 := h36 hf39
            have c40 := c37 hf39
            replace c40 : (0 : Int) ≠ 0 := c40
            clear c37
            clear g17 h12 h30 h36
            refine T_ret rfl (fun _ => rfl) ?_
            exact ⟨(mO m35 [] []), Tm35, (fr_m (fr_s Fm35 (fr_m (fr_s Fm10 (fr_m fr_0 rfl rfl) rfl rfl) rfl rfl) rfl rfl) rfl rfl), (show (m35.1 10) = 0 → (m.1 10) = 0 by omega), (show LxP (m35.1 7) (m35.1 8) (m35.1 9) (m.1 6) (m35.1 10) by rewrite [(show (m35.1 7) = (m10.1 7) from (fr1 Fm35 7 rfl)), (show (m35.1 8) = (m10.1 8) from (fr1 Fm35 8 rfl)), (show (m35.1 9) = (m10.1 9) from (fr1 Fm35 9 rfl))]; first | (first | exact hLx | exact (fun _ => hLx (by omega)) | (intro h9; exfalso; omega)) | (exfalso; omega)), (fun _ => ⟨(show (m.1 8) + 1 ≤ (m35.1 8) by rewrite [(show (m35.1 8) = (m10.1 8) from (fr1 Fm35 8 rfl))]; omega), (show (m35.1 69) ≤ 64 by rewrite [(show (m35.1 69) = (m10.1 69) from (fr1 Fm35 69 rfl))]; omega), (show (m.1 28) ≤ (m35.1 28) by rewrite [(show (m35.1 28) = (m10.1 28) from (fr1 Fm35 28 rfl))]; omega), (show okc (m35.2 65) (m.1 28) (m35.1 28) by rewrite [(show (m35.2 65) = (m10.2 65) from (fr2 Fm35 65 rfl)), (show (m35.1 28) = (m10.1 28) from (fr1 Fm35 28 rfl))]; first | (exact hOk) | (exfalso; omega)), (show CN (m35.2 65) (m35.2 67) (m35.1 28) by rewrite [(show (m35.2 65) = (m10.2 65) from (fr2 Fm35 65 rfl)), (show (m35.2 67) = (m10.2 67) from (fr2 Fm35 67 rfl)), (show (m35.1 28) = (m10.1 28) from (fr1 Fm35 28 rfl))]; first | (exact hCN) | (exfalso; omega)), (show agr (m.2 65) (m35.2 65) (m.1 28) by rewrite [(show (m35.2 65) = (m10.2 65) from (fr2 Fm35 65 rfl))]; first | (exact hAg) | (exfalso; omega))⟩), rfl⟩
          · skip
            clear c37
            clear h36
            have hf41 : 1 ≤ (m35.1 10) := by omega
            clear g17 h12 h30
            exact J50_4 (mO m35 [] []) Tm35 (fr_m (fr_s Fm35 (fr_m (fr_s Fm10 (fr_m fr_0 rfl rfl) rfl rfl) rfl rfl) rfl rfl) rfl rfl) (show 1 ≤ (m35.1 10) by omega)
        · skip
          refine T_ld 39 (.int (i32 1)) rfl (fun _ => rfl) ?_
          refine T_goto 43 rfl (fun _ => rfl) ?_
          refine T_gf 47 (.int (i32 (m10.1 70))) rfl rfl rfl rfl rfl rfl ?_
          refine T_call 50 256 [.ref 189, .int (i32 1), .int (i32 (m10.1 70))] [] rfl (fun _ => rfl) rfl (c_want w (mO m10 [] []) c N D (by omega) Tm10 1 (m10.1 70) ⟨by decide, by decide⟩ (r32 (by omega) (by omega)) (show 0 ≤ (m10.1 70) ∧ (m10.1 70) ≤ 4000 by omega) (fun _ => trivial)) (fun rr42 k43 => ?_)
          obtain ⟨m44, Tm44, Fm44, h45, c46, rfl⟩ := k43
          refine ⟨_, _, rfl, ?_⟩
          refine T_nb (st' := []) rfl ?_
          have g47 : 0 ≤ m44.1 10 ∧ m44.1 10 ≤ 8 := Tm44.1 10
          by_cases hf48 : (m44.1 10) = 0
          · skip
            replace h45 : (m10.1 10) = 0 := h45 hf48
            have c49 := c46 hf48
            replace c49 : (1 : Int) ≠ 0 := c49
            clear c46
            clear g17 h12 h30 h45
            refine T_ret rfl (fun _ => rfl) ?_
            exact ⟨(mO m44 [] []), Tm44, (fr_m (fr_s Fm44 (fr_m (fr_s Fm10 (fr_m fr_0 rfl rfl) rfl rfl) rfl rfl) rfl rfl) rfl rfl), (show (m44.1 10) = 0 → (m.1 10) = 0 by omega), (show LxP (m44.1 7) (m44.1 8) (m44.1 9) (m.1 6) (m44.1 10) by rewrite [(show (m44.1 7) = (m10.1 7) from (fr1 Fm44 7 rfl)), (show (m44.1 8) = (m10.1 8) from (fr1 Fm44 8 rfl)), (show (m44.1 9) = (m10.1 9) from (fr1 Fm44 9 rfl))]; first | (first | exact hLx | exact (fun _ => hLx (by omega)) | (intro h9; exfalso; omega)) | (exfalso; omega)), (fun _ => ⟨(show (m.1 8) + 1 ≤ (m44.1 8) by rewrite [(show (m44.1 8) = (m10.1 8) from (fr1 Fm44 8 rfl))]; omega), (show (m44.1 69) ≤ 64 by rewrite [(show (m44.1 69) = (m10.1 69) from (fr1 Fm44 69 rfl))]; omega), (show (m.1 28) ≤ (m44.1 28) by rewrite [(show (m44.1 28) = (m10.1 28) from (fr1 Fm44 28 rfl))]; omega), (show okc (m44.2 65) (m.1 28) (m44.1 28) by rewrite [(show (m44.2 65) = (m10.2 65) from (fr2 Fm44 65 rfl)), (show (m44.1 28) = (m10.1 28) from (fr1 Fm44 28 rfl))]; first | (exact hOk) | (exfalso; omega)), (show CN (m44.2 65) (m44.2 67) (m44.1 28) by rewrite [(show (m44.2 65) = (m10.2 65) from (fr2 Fm44 65 rfl)), (show (m44.2 67) = (m10.2 67) from (fr2 Fm44 67 rfl)), (show (m44.1 28) = (m10.1 28) from (fr1 Fm44 28 rfl))]; first | (exact hCN) | (exfalso; omega)), (show agr (m.2 65) (m44.2 65) (m.1 28) by rewrite [(show (m44.2 65) = (m10.2 65) from (fr2 Fm44 65 rfl))]; first | (exact hAg) | (exfalso; omega))⟩), rfl⟩
          · skip
            clear c46
            clear h45
            have hf50 : 1 ≤ (m44.1 10) := by omega
            clear g17 h12 h30
            exact J50_4 (mO m44 [] []) Tm44 (fr_m (fr_s Fm44 (fr_m (fr_s Fm10 (fr_m fr_0 rfl rfl) rfl rfl) rfl rfl) rfl rfl) rfl rfl) (show 1 ≤ (m44.1 10) by omega)
      · skip
        refine T_gf 23 (.long (i64 (m10.1 72))) rfl rfl rfl rfl rfl rfl ?_
        refine T_ld 24 (.int (i32 b)) rfl (fun _ => rfl) ?_
        refine T_call 27 262 [.long (i64 (m10.1 72)), .int (i32 b)] [.ref 189] rfl (fun _ => rfl) rfl (c_fits w (mO m10 [] []) c N D (by omega) Tm10 (m10.1 72) b (r64 (by omega) (by omega)) (r32 (by omega) (by omega))) (fun rr51 k52 => ?_)
        obtain ⟨x53, g54, rfl⟩ := k52
        refine ⟨_, _, rfl, ?_⟩
        refine T_ns (st' := [.int (i32 x53), .ref 189]) rfl ?_
        obtain ⟨g54a, g54b⟩ := g54
        refine T_goto 43 rfl (fun _ => rfl) ?_
        refine T_gf 47 (.int (i32 (m10.1 70))) rfl rfl rfl rfl rfl rfl ?_
        refine T_call 50 256 [.ref 189, .int (i32 x53), .int (i32 (m10.1 70))] [] rfl (fun _ => rfl) rfl (c_want w (mO m10 [] []) c N D (by omega) Tm10 x53 (m10.1 70) (r32 (by omega) (by omega)) (r32 (by omega) (by omega)) (show 0 ≤ (m10.1 70) ∧ (m10.1 70) ≤ 4000 by omega) (fun _ => trivial)) (fun rr55 k56 => ?_)
        obtain ⟨m57, Tm57, Fm57, h58, c59, rfl⟩ := k56
        refine ⟨_, _, rfl, ?_⟩
        refine T_nb (st' := []) rfl ?_
        have g60 : 0 ≤ m57.1 10 ∧ m57.1 10 ≤ 8 := Tm57.1 10
        by_cases hf61 : (m57.1 10) = 0
        · skip
          replace h58 : (m10.1 10) = 0 := h58 hf61
          have c62 := c59 hf61
          replace c62 : x53 ≠ 0 := c62
          clear c59
          clear g17 h12 h30 g54a g54b h58 c62
          refine T_ret rfl (fun _ => rfl) ?_
          exact ⟨(mO m57 [] []), Tm57, (fr_m (fr_s Fm57 (fr_m (fr_s Fm10 (fr_m fr_0 rfl rfl) rfl rfl) rfl rfl) rfl rfl) rfl rfl), (show (m57.1 10) = 0 → (m.1 10) = 0 by omega), (show LxP (m57.1 7) (m57.1 8) (m57.1 9) (m.1 6) (m57.1 10) by rewrite [(show (m57.1 7) = (m10.1 7) from (fr1 Fm57 7 rfl)), (show (m57.1 8) = (m10.1 8) from (fr1 Fm57 8 rfl)), (show (m57.1 9) = (m10.1 9) from (fr1 Fm57 9 rfl))]; first | (first | exact hLx | exact (fun _ => hLx (by omega)) | (intro h9; exfalso; omega)) | (exfalso; omega)), (fun _ => ⟨(show (m.1 8) + 1 ≤ (m57.1 8) by rewrite [(show (m57.1 8) = (m10.1 8) from (fr1 Fm57 8 rfl))]; omega), (show (m57.1 69) ≤ 64 by rewrite [(show (m57.1 69) = (m10.1 69) from (fr1 Fm57 69 rfl))]; omega), (show (m.1 28) ≤ (m57.1 28) by rewrite [(show (m57.1 28) = (m10.1 28) from (fr1 Fm57 28 rfl))]; omega), (show okc (m57.2 65) (m.1 28) (m57.1 28) by rewrite [(show (m57.2 65) = (m10.2 65) from (fr2 Fm57 65 rfl)), (show (m57.1 28) = (m10.1 28) from (fr1 Fm57 28 rfl))]; first | (exact hOk) | (exfalso; omega)), (show CN (m57.2 65) (m57.2 67) (m57.1 28) by rewrite [(show (m57.2 65) = (m10.2 65) from (fr2 Fm57 65 rfl)), (show (m57.2 67) = (m10.2 67) from (fr2 Fm57 67 rfl)), (show (m57.1 28) = (m10.1 28) from (fr1 Fm57 28 rfl))]; first | (exact hCN) | (exfalso; omega)), (show agr (m.2 65) (m57.2 65) (m.1 28) by rewrite [(show (m57.2 65) = (m10.2 65) from (fr2 Fm57 65 rfl))]; first | (exact hAg) | (exfalso; omega))⟩), rfl⟩
        · skip
          clear c59
          clear h58
          have hf63 : 1 ≤ (m57.1 10) := by omega
          clear g17 h12 h30 g54a g54b
          exact J50_4 (mO m57 [] []) Tm57 (fr_m (fr_s Fm57 (fr_m (fr_s Fm10 (fr_m fr_0 rfl rfl) rfl rfl) rfl rfl) rfl rfl) rfl rfl) (show 1 ≤ (m57.1 10) by omega)
    · skip
      clear c13
      clear h11
      replace h12 : LxP (m10.1 7) (m10.1 8) (m10.1 9) (m.1 6) (m10.1 10) := h12
      have hLx := h12
      have hf64 : 1 ≤ (m10.1 10) := by omega
      refine T_gf 8 (.int (i32 (m10.1 10))) rfl rfl rfl rfl rfl rfl ?_
      refine T_if 50 11 rfl rfl rfl (r32 (by omega) (by omega)) (fun (h65 : (m10.1 10) ≠ 0) => ?_) (fun (h65 : ¬ ((m10.1 10) ≠ 0)) => by exfalso; omega)
      refine T_ret rfl (fun _ => rfl) ?_
      exact ⟨(mO m10 [] []), Tm10, (fr_m (fr_s Fm10 (fr_m fr_0 rfl rfl) rfl rfl) rfl rfl), (show (m10.1 10) = 0 → (m.1 10) = 0 by omega), (show LxP (m10.1 7) (m10.1 8) (m10.1 9) (m.1 6) (m10.1 10) by first | (first | exact hLx | exact (fun _ => hLx (by omega)) | (intro h9; exfalso; omega)) | (exfalso; omega)), (fun (h : (m10.1 10) = 0) => absurd h (by omega)), rfl⟩
  · skip
    clear hC
    refine T_ld 1 (.ref 189) rfl (fun _ => rfl) ?_
    refine T_call 4 244 [.ref 189] [] rfl (fun _ => rfl) rfl (c_readExpr w (mO m [] []) c N D (by omega) hT (show LxP (m.1 7) (m.1 8) (m.1 9) (m.1 6) (m.1 10) by first | exact hLx | exact (fun _ => hLx (by omega)) | (intro h9; exfalso; omega)) (show ∀ k, (m.2 14) k + (m.2 15) k ≤ 4000 by assumption) (show ∀ k, (m.2 31) k + (m.2 32) k ≤ 4000 by assumption) (show ∀ k, (m.2 47) k + (m.2 48) k ≤ 4000 by assumption) (fun (h : (m.1 10) = 0) => absurd h (by omega))) (fun rr66 k67 => ?_)
    obtain ⟨m68, Tm68, Fm68, h69, h70, c71, rfl⟩ := k67
    refine ⟨_, _, rfl, ?_⟩
    refine T_nb (st' := []) rfl ?_
    have g72 : 0 ≤ m68.1 7 ∧ m68.1 7 ≤ 330 := Tm68.1 7
    have g73 : 0 ≤ m68.1 8 ∧ m68.1 8 ≤ 4000 := Tm68.1 8
    have g74 : 0 ≤ m68.1 9 ∧ m68.1 9 ≤ 4000 := Tm68.1 9
    have g75 : 0 ≤ m68.1 10 ∧ m68.1 10 ≤ 8 := Tm68.1 10
    have g76 : 0 ≤ m68.1 28 ∧ m68.1 28 ≤ 800 := Tm68.1 28
    have g77 : 0 ≤ m68.1 69 ∧ m68.1 69 ≤ 1024 := Tm68.1 69
    have g78 : 0 ≤ m68.1 70 ∧ m68.1 70 ≤ 4000 := Tm68.1 70
    have g79 : 0 ≤ m68.1 71 ∧ m68.1 71 ≤ 1 := Tm68.1 71
    have g80 : (-9223372036854775808) ≤ m68.1 72 ∧ m68.1 72 ≤ 9223372036854775807 := Tm68.1 72
    replace h69 : (m68.1 10) = 0 → (m.1 10) = 0 := h69
    replace h70 : LxP (m68.1 7) (m68.1 8) (m68.1 9) (m.1 6) (m68.1 10) := h70
    have hf81 : 1 ≤ (m68.1 10) := by omega
    clear c71
    clear h69
    have hLx := h70
    refine T_gf 8 (.int (i32 (m68.1 10))) rfl rfl rfl rfl rfl rfl ?_
    refine T_if 50 11 rfl rfl rfl (r32 (by omega) (by omega)) (fun (h82 : (m68.1 10) ≠ 0) => ?_) (fun (h82 : ¬ ((m68.1 10) ≠ 0)) => by exfalso; omega)
    refine T_ret rfl (fun _ => rfl) ?_
    exact ⟨(mO m68 [] []), Tm68, (fr_m (fr_s Fm68 (fr_m fr_0 rfl rfl) rfl rfl) rfl rfl), (show (m68.1 10) = 0 → (m.1 10) = 0 by omega), (show LxP (m68.1 7) (m68.1 8) (m68.1 9) (m.1 6) (m68.1 10) by first | (first | exact hLx | exact (fun _ => hLx (by omega)) | (intro h9; exfalso; omega)) | (exfalso; omega)), (fun (h : (m68.1 10) = 0) => absurd h (by omega)), rfl⟩
