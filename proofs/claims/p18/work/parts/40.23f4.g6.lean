def fF_exprOf : List Nat := [7, 8, 9, 10, 11, 12, 28, 69, 70, 71, 72, 73, 74, 75]
def fA_exprOf : List Nat := [65, 66, 67, 68, 76, 77, 78, 79, 80, 81, 82, 83, 84, 85, 86, 87, 88, 89, 90, 91, 92]
def Q_exprOf (m : mR) (c : Nat → Option am_C) (N : Nat) (b : Int) : ag_Re af_T → Prop := fun R => ∃ (M : mR), Ty M ∧ fr fF_exprOf fA_exprOf m M ∧ ((M.1 10) = 0 → (m.1 10) = 0) ∧ (LxP (M.1 7) (M.1 8) (M.1 9) (m.1 6) (M.1 10)) ∧ (M.1 10 = 0 → ((m.1 8) + 1 ≤ (M.1 8)) ∧ ((M.1 69) ≤ 64) ∧ ((m.1 28) ≤ (M.1 28)) ∧ (okc (M.2 65) (m.1 28) (M.1 28)) ∧ (CN (M.2 65) (M.2 67) (M.1 28)) ∧ (agr (m.2 65) (M.2 65) (m.1 28))) ∧ R = (.inl (none), (mhp M c, N), 0, 0)
set_option maxHeartbeats 3000000 in
theorem c_exprOf (w : wX) (m : mR) (c : Nat → Option am_C) (N D : Nat) (hD : 11 ≤ D) (hT : Ty m) (b : Int) (qb : R32 b) (hLx0 : LxP (m.1 7) (m.1 8) (m.1 9) (m.1 6) (m.1 10)) (hNM0 : ∀ k, (m.2 14) k + (m.2 15) k ≤ 4000) (hFA0 : ∀ k, (m.2 31) k + (m.2 32) k ≤ 4000) (hPA0 : ∀ k, (m.2 47) k + (m.2 48) k ≤ 4000) (hC : m.1 10 = 0 → (PN (m.1 13) (m.1 19) (m.1 20) (m.1 21) (m.1 22) (m.1 23) (m.1 25) (m.1 26) (m.2 16) (m.2 17)) ∧ (CN (m.2 65) (m.2 67) (m.1 28))) : TC w D 273 [.ref 189, .int (i32 b)] (mhp m c, N) (Q_exprOf m c N b) := by
  obtain ⟨D, rfl⟩ : ∃ k, D = k + 1 := ⟨D - 1, by omega⟩
  obtain ⟨qba, qbb⟩ := id qb
  have hLx := hLx0
  have hNM := hNM0
  have hFA := hFA0
  have hPA := hPA0
  have f7 : 0 ≤ m.1 7 ∧ m.1 7 ≤ 330 := hT.1 7
  have f8 : 0 ≤ m.1 8 ∧ m.1 8 ≤ 4000 := hT.1 8
  have f9 : 0 ≤ m.1 9 ∧ m.1 9 ≤ 4000 := hT.1 9
  have f10 : 0 ≤ m.1 10 ∧ m.1 10 ≤ 8 := hT.1 10
  have f28 : 0 ≤ m.1 28 ∧ m.1 28 ≤ 800 := hT.1 28
  have f69 : 0 ≤ m.1 69 ∧ m.1 69 ≤ 1024 := hT.1 69
  have f70 : 0 ≤ m.1 70 ∧ m.1 70 ≤ 4000 := hT.1 70
  have f71 : 0 ≤ m.1 71 ∧ m.1 71 ≤ 1 := hT.1 71
  have f72 : (-9223372036854775808) ≤ m.1 72 ∧ m.1 72 ≤ 9223372036854775807 := hT.1 72
  have f25 : 0 ≤ m.1 25 ∧ m.1 25 ≤ 16 := hT.1 25
  have f22 : 0 ≤ m.1 22 ∧ m.1 22 ≤ 8 := hT.1 22
  have f19 : 0 ≤ m.1 19 ∧ m.1 19 ≤ 12 := hT.1 19
  have f20 : 0 ≤ m.1 20 ∧ m.1 20 ≤ 12 := hT.1 20
  have f21 : 0 ≤ m.1 21 ∧ m.1 21 ≤ 16 := hT.1 21
  have f13 : 0 ≤ m.1 13 ∧ m.1 13 ≤ 120 := hT.1 13
  have f6 : 0 ≤ m.1 6 ∧ m.1 6 ≤ 4000 := hT.1 6
  have f23 : 0 ≤ m.1 23 ∧ m.1 23 ≤ 16 := hT.1 23
  have f26 : 0 ≤ m.1 26 ∧ m.1 26 ≤ 8 := hT.1 26
  refine Tc_of rfl ?_
  show TT w D pm_273 (0, [(0, .ref 189), (1, .int (i32 b))], [], (mhp (mO m [] []) c, N), 0, 0) (Q_exprOf m c N b)
  by_cases hf0 : m.1 10 = 0
  · skip
    obtain ⟨pPN, hCN⟩ := hC hf0
    have J50_4 : ∀ (m3 : mR), Ty m3 → fr [7, 8, 9, 10, 11, 12, 28, 69, 70, 71, 72, 73, 74, 75] [65, 66, 67, 68, 76, 77, 78, 79, 80, 81, 82, 83, 84, 85, 86, 87, 88, 89, 90, 91, 92] (mO m [] []) m3 → (1 ≤ (m3.1 10)) → TT w D pm_273 (50, [(0, .ref 189), (1, .int (i32 b))], [], (mhp (mO m3 [] []) c, N), 0, 0) (Q_exprOf m c N b) := by
      intro m3 Tm3 Fm3 ic5
      have q6_7 : 0 ≤ m3.1 7 ∧ m3.1 7 ≤ 330 := Tm3.1 7
      have q6_8 : 0 ≤ m3.1 8 ∧ m3.1 8 ≤ 4000 := Tm3.1 8
      have q6_9 : 0 ≤ m3.1 9 ∧ m3.1 9 ≤ 4000 := Tm3.1 9
      have q6_10 : 0 ≤ m3.1 10 ∧ m3.1 10 ≤ 8 := Tm3.1 10
      have q6_28 : 0 ≤ m3.1 28 ∧ m3.1 28 ≤ 800 := Tm3.1 28
      have q6_69 : 0 ≤ m3.1 69 ∧ m3.1 69 ≤ 1024 := Tm3.1 69
      have q6_70 : 0 ≤ m3.1 70 ∧ m3.1 70 ≤ 4000 := Tm3.1 70
      have q6_71 : 0 ≤ m3.1 71 ∧ m3.1 71 ≤ 1 := Tm3.1 71
      have q6_72 : (-9223372036854775808) ≤ m3.1 72 ∧ m3.1 72 ≤ 9223372036854775807 := Tm3.1 72
      refine T_ret rfl (fun _ => rfl) ?_
      exact ⟨(mO m3 [] []), Tm3, (fr_m (fr_s Fm3 (fr_m fr_0 rfl rfl) rfl rfl) rfl rfl), (show (m3.1 10) = 0 → (m.1 10) = 0 by omega), (show LxP (m3.1 7) (m3.1 8) (m3.1 9) (m.1 6) (m3.1 10) by first | (first | exact hLx | exact (fun _ => hLx (by omega)) | (intro h9; exfalso; omega)) | (exfalso; omega)), (fun (h : (m3.1 10) = 0) => absurd h (by omega)), rfl⟩
    refine T_ld 1 (.ref 189) rfl (fun _ => rfl) ?_
    refine T_call 4 244 [.ref 189] [] rfl (fun _ => rfl) rfl (c_readExpr w (mO m [] []) c N D (by omega) hT (show LxP (m.1 7) (m.1 8) (m.1 9) (m.1 6) (m.1 10) by first | exact hLx | exact (fun _ => hLx (by omega)) | (intro h9; exfalso; omega)) (show ∀ k, (m.2 14) k + (m.2 15) k ≤ 4000 by assumption) (show ∀ k, (m.2 31) k + (m.2 32) k ≤ 4000 by assumption) (show ∀ k, (m.2 47) k + (m.2 48) k ≤ 4000 by assumption) (fun _ => ⟨(show PN (m.1 13) (m.1 19) (m.1 20) (m.1 21) (m.1 22) (m.1 23) (m.1 25) (m.1 26) (m.2 16) (m.2 17) by assumption), (show CN (m.2 65) (m.2 67) (m.1 28) by assumption)⟩)) (fun rr9 k10 => ?_)
    obtain ⟨m11, Tm11, Fm11, h12, h13, c14, rfl⟩ := k10
    refine ⟨_, _, rfl, ?_⟩
    refine T_nb (st' := []) rfl ?_
    have g15 : 0 ≤ m11.1 7 ∧ m11.1 7 ≤ 330 := Tm11.1 7
    have g16 : 0 ≤ m11.1 8 ∧ m11.1 8 ≤ 4000 := Tm11.1 8
    have g17 : 0 ≤ m11.1 9 ∧ m11.1 9 ≤ 4000 := Tm11.1 9
    have g18 : 0 ≤ m11.1 10 ∧ m11.1 10 ≤ 8 := Tm11.1 10
    have g19 : 0 ≤ m11.1 28 ∧ m11.1 28 ≤ 800 := Tm11.1 28
    have g20 : 0 ≤ m11.1 69 ∧ m11.1 69 ≤ 1024 := Tm11.1 69
    have g21 : 0 ≤ m11.1 70 ∧ m11.1 70 ≤ 4000 := Tm11.1 70
    have g22 : 0 ≤ m11.1 71 ∧ m11.1 71 ≤ 1 := Tm11.1 71
    have g23 : (-9223372036854775808) ≤ m11.1 72 ∧ m11.1 72 ≤ 9223372036854775807 := Tm11.1 72
    by_cases hf24 : (m11.1 10) = 0
    · skip
      replace h12 : (m.1 10) = 0 := h12 hf24
      replace h13 : LxP (m11.1 7) (m11.1 8) (m11.1 9) (m.1 6) (m11.1 10) := h13
      have hLx := h13
      obtain ⟨c25, c26, c27, c28, c29, c30⟩ := c14 hf24
      replace c25 : (m.1 8) + 1 ≤ (m11.1 8) := c25
      replace c26 : (m11.1 69) ≤ 64 := c26
      replace c27 : (m.1 28) ≤ (m11.1 28) := c27
      replace c28 : okc (m11.2 65) (m.1 28) (m11.1 28) := c28
      have hOk := c28
      replace c29 : CN (m11.2 65) (m11.2 67) (m11.1 28) := c29
      have hCN := c29
      replace c30 : agr (m.2 65) (m11.2 65) (m.1 28) := c30
      have hAg := c30
      clear c14
      refine T_gf 8 (.int (i32 (m11.1 10))) rfl rfl rfl rfl rfl rfl ?_
      refine T_if 50 11 rfl rfl rfl (r32 (by omega) (by omega)) (fun (h31 : (m11.1 10) ≠ 0) => by exfalso; omega) (fun (h31 : ¬ ((m11.1 10) ≠ 0)) => ?_)
      refine T_ld 12 (.ref 189) rfl (fun _ => rfl) ?_
      refine T_gf 16 (.int (i32 (m11.1 71))) rfl rfl rfl rfl rfl rfl ?_
      refine T_if 30 19 rfl rfl rfl (r32 (by omega) (by omega)) (fun (h32 : (m11.1 71) = 0) => ?_) (fun (h32 : ¬ ((m11.1 71) = 0)) => ?_)
      · skip
        refine T_gf 34 (.int (i32 (m11.1 69))) rfl rfl rfl rfl rfl rfl ?_
        refine T_ld 35 (.int (i32 b)) rfl (fun _ => rfl) ?_
        refine T_icmp 42 38 rfl rfl rfl (r32 (by omega) (by omega)) (r32 (by omega) (by omega)) (fun (h33 : (m11.1 69) ≠ b) => ?_) (fun (h33 : ¬ ((m11.1 69) ≠ b)) => ?_)
        · skip
          refine T_ld 43 (.int (i32 0)) rfl (fun _ => rfl) ?_
          refine T_gf 47 (.int (i32 (m11.1 70))) rfl rfl rfl rfl rfl rfl ?_
          refine T_call 50 256 [.ref 189, .int (i32 0), .int (i32 (m11.1 70))] [] rfl (fun _ => rfl) rfl (c_want w (mO m11 [] []) c N D (by omega) Tm11 0 (m11.1 70) ⟨by decide, by decide⟩ (r32 (by omega) (by omega)) (show 0 ≤ (m11.1 70) ∧ (m11.1 70) ≤ 4000 by omega) (fun _ => trivial)) (fun rr34 k35 => ?_)
          obtain ⟨m36, Tm36, Fm36, h37, c38, rfl⟩ := k35
          refine ⟨_, _, rfl, ?_⟩
          refine T_nb (st' := []) rfl ?_
          have g39 : 0 ≤ m36.1 10 ∧ m36.1 10 ≤ 8 := Tm36.1 10
          by_cases hf40 : (m36.1 10) = 0
          · skip
            replace h37 : (m11.1 10) = 0 := h37 hf40
            have c41 := c38 hf40
            replace c41 : (0 : Int) ≠ 0 := c41
            clear c38
            clear g18 h13 h31 h37
            refine T_ret rfl (fun _ => rfl) ?_
            exact ⟨(mO m36 [] []), Tm36, (fr_m (fr_s Fm36 (fr_m (fr_s Fm11 (fr_m fr_0 rfl rfl) rfl rfl) rfl rfl) rfl rfl) rfl rfl), (show (m36.1 10) = 0 → (m.1 10) = 0 by omega), (show LxP (m36.1 7) (m36.1 8) (m36.1 9) (m.1 6) (m36.1 10) by rewrite [(show (m36.1 7) = (m11.1 7) from (fr1 Fm36 7 rfl)), (show (m36.1 8) = (m11.1 8) from (fr1 Fm36 8 rfl)), (show (m36.1 9) = (m11.1 9) from (fr1 Fm36 9 rfl))]; first | (first | exact hLx | exact (fun _ => hLx (by omega)) | (intro h9; exfalso; omega)) | (exfalso; omega)), (fun _ => ⟨(show (m.1 8) + 1 ≤ (m36.1 8) by rewrite [(show (m36.1 8) = (m11.1 8) from (fr1 Fm36 8 rfl))]; omega), (show (m36.1 69) ≤ 64 by rewrite [(show (m36.1 69) = (m11.1 69) from (fr1 Fm36 69 rfl))]; omega), (show (m.1 28) ≤ (m36.1 28) by rewrite [(show (m36.1 28) = (m11.1 28) from (fr1 Fm36 28 rfl))]; omega), (show okc (m36.2 65) (m.1 28) (m36.1 28) by rewrite [(show (m36.2 65) = (m11.2 65) from (fr2 Fm36 65 rfl)), (show (m36.1 28) = (m11.1 28) from (fr1 Fm36 28 rfl))]; first | (exact hOk) | (exfalso; omega)), (show CN (m36.2 65) (m36.2 67) (m36.1 28) by rewrite [(show (m36.2 65) = (m11.2 65) from (fr2 Fm36 65 rfl)), (show (m36.2 67) = (m11.2 67) from (fr2 Fm36 67 rfl)), (show (m36.1 28) = (m11.1 28) from (fr1 Fm36 28 rfl))]; first | (exact hCN) | (exfalso; omega)), (show agr (m.2 65) (m36.2 65) (m.1 28) by rewrite [(show (m36.2 65) = (m11.2 65) from (fr2 Fm36 65 rfl))]; first | (exact hAg) | (exfalso; omega))⟩), rfl⟩
          · skip
            clear c38
            clear h37
            have hf42 : 1 ≤ (m36.1 10) := by omega
            clear g18 h13 h31
            exact J50_4 (mO m36 [] []) Tm36 (fr_m (fr_s Fm36 (fr_m (fr_s Fm11 (fr_m fr_0 rfl rfl) rfl rfl) rfl rfl) rfl rfl) rfl rfl) (show 1 ≤ (m36.1 10) by omega)
        · skip
          refine T_ld 39 (.int (i32 1)) rfl (fun _ => rfl) ?_
          refine T_goto 43 rfl (fun _ => rfl) ?_
          refine T_gf 47 (.int (i32 (m11.1 70))) rfl rfl rfl rfl rfl rfl ?_
          refine T_call 50 256 [.ref 189, .int (i32 1), .int (i32 (m11.1 70))] [] rfl (fun _ => rfl) rfl (c_want w (mO m11 [] []) c N D (by omega) Tm11 1 (m11.1 70) ⟨by decide, by decide⟩ (r32 (by omega) (by omega)) (show 0 ≤ (m11.1 70) ∧ (m11.1 70) ≤ 4000 by omega) (fun _ => trivial)) (fun rr43 k44 => ?_)
          obtain ⟨m45, Tm45, Fm45, h46, c47, rfl⟩ := k44
          refine ⟨_, _, rfl, ?_⟩
          refine T_nb (st' := []) rfl ?_
          have g48 : 0 ≤ m45.1 10 ∧ m45.1 10 ≤ 8 := Tm45.1 10
          by_cases hf49 : (m45.1 10) = 0
          · skip
            replace h46 : (m11.1 10) = 0 := h46 hf49
            have c50 := c47 hf49
            replace c50 : (1 : Int) ≠ 0 := c50
            clear c47
            clear g18 h13 h31 h46
            refine T_ret rfl (fun _ => rfl) ?_
            exact ⟨(mO m45 [] []), Tm45, (fr_m (fr_s Fm45 (fr_m (fr_s Fm11 (fr_m fr_0 rfl rfl) rfl rfl) rfl rfl) rfl rfl) rfl rfl), (show (m45.1 10) = 0 → (m.1 10) = 0 by omega), (show LxP (m45.1 7) (m45.1 8) (m45.1 9) (m.1 6) (m45.1 10) by rewrite [(show (m45.1 7) = (m11.1 7) from (fr1 Fm45 7 rfl)), (show (m45.1 8) = (m11.1 8) from (fr1 Fm45 8 rfl)), (show (m45.1 9) = (m11.1 9) from (fr1 Fm45 9 rfl))]; first | (first | exact hLx | exact (fun _ => hLx (by omega)) | (intro h9; exfalso; omega)) | (exfalso; omega)), (fun _ => ⟨(show (m.1 8) + 1 ≤ (m45.1 8) by rewrite [(show (m45.1 8) = (m11.1 8) from (fr1 Fm45 8 rfl))]; omega), (show (m45.1 69) ≤ 64 by rewrite [(show (m45.1 69) = (m11.1 69) from (fr1 Fm45 69 rfl))]; omega), (show (m.1 28) ≤ (m45.1 28) by rewrite [(show (m45.1 28) = (m11.1 28) from (fr1 Fm45 28 rfl))]; omega), (show okc (m45.2 65) (m.1 28) (m45.1 28) by rewrite [(show (m45.2 65) = (m11.2 65) from (fr2 Fm45 65 rfl)), (show (m45.1 28) = (m11.1 28) from (fr1 Fm45 28 rfl))]; first | (exact hOk) | (exfalso; omega)), (show CN (m45.2 65) (m45.2 67) (m45.1 28) by rewrite [(show (m45.2 65) = (m11.2 65) from (fr2 Fm45 65 rfl)), (show (m45.2 67) = (m11.2 67) from (fr2 Fm45 67 rfl)), (show (m45.1 28) = (m11.1 28) from (fr1 Fm45 28 rfl))]; first | (exact hCN) | (exfalso; omega)), (show agr (m.2 65) (m45.2 65) (m.1 28) by rewrite [(show (m45.2 65) = (m11.2 65) from (fr2 Fm45 65 rfl))]; first | (exact hAg) | (exfalso; omega))⟩), rfl⟩
          · skip
            clear c47
            clear h46
            have hf51 : 1 ≤ (m45.1 10) := by omega
            clear g18 h13 h31
            exact J50_4 (mO m45 [] []) Tm45 (fr_m (fr_s Fm45 (fr_m (fr_s Fm11 (fr_m fr_0 rfl rfl) rfl rfl) rfl rfl) rfl rfl) rfl rfl) (show 1 ≤ (m45.1 10) by omega)
      · skip
        refine T_gf 23 (.long (i64 (m11.1 72))) rfl rfl rfl rfl rfl rfl ?_
        refine T_ld 24 (.int (i32 b)) rfl (fun _ => rfl) ?_
        refine T_call 27 262 [.long (i64 (m11.1 72)), .int (i32 b)] [.ref 189] rfl (fun _ => rfl) rfl (c_fits w (mO m11 [] []) c N D (by omega) Tm11 (m11.1 72) b (r64 (by omega) (by omega)) (r32 (by omega) (by omega))) (fun rr52 k53 => ?_)
        obtain ⟨x54, g55, rfl⟩ := k53
        refine ⟨_, _, rfl, ?_⟩
        refine T_ns (st' := [.int (i32 x54), .ref 189]) rfl ?_
        obtain ⟨g55a, g55b⟩ := g55
        refine T_goto 43 rfl (fun _ => rfl) ?_
        refine T_gf 47 (.int (i32 (m11.1 70))) rfl rfl rfl rfl rfl rfl ?_
        refine T_call 50 256 [.ref 189, .int (i32 x54), .int (i32 (m11.1 70))] [] rfl (fun _ => rfl) rfl (c_want w (mO m11 [] []) c N D (by omega) Tm11 x54 (m11.1 70) (r32 (by omega) (by omega)) (r32 (by omega) (by omega)) (show 0 ≤ (m11.1 70) ∧ (m11.1 70) ≤ 4000 by omega) (fun _ => trivial)) (fun rr56 k57 => ?_)
        obtain ⟨m58, Tm58, Fm58, h59, c60, rfl⟩ := k57
        refine ⟨_, _, rfl, ?_⟩
        refine T_nb (st' := []) rfl ?_
        have g61 : 0 ≤ m58.1 10 ∧ m58.1 10 ≤ 8 := Tm58.1 10
        by_cases hf62 : (m58.1 10) = 0
        · skip
          replace h59 : (m11.1 10) = 0 := h59 hf62
          have c63 := c60 hf62
          replace c63 : x54 ≠ 0 := c63
          clear c60
          clear g18 h13 h31 g55a g55b h59 c63
          refine T_ret rfl (fun _ => rfl) ?_
          exact ⟨(mO m58 [] []), Tm58, (fr_m (fr_s Fm58 (fr_m (fr_s Fm11 (fr_m fr_0 rfl rfl) rfl rfl) rfl rfl) rfl rfl) rfl rfl), (show (m58.1 10) = 0 → (m.1 10) = 0 by omega), (show LxP (m58.1 7) (m58.1 8) (m58.1 9) (m.1 6) (m58.1 10) by rewrite [(show (m58.1 7) = (m11.1 7) from (fr1 Fm58 7 rfl)), (show (m58.1 8) = (m11.1 8) from (fr1 Fm58 8 rfl)), (show (m58.1 9) = (m11.1 9) from (fr1 Fm58 9 rfl))]; first | (first | exact hLx | exact (fun _ => hLx (by omega)) | (intro h9; exfalso; omega)) | (exfalso; omega)), (fun _ => ⟨(show (m.1 8) + 1 ≤ (m58.1 8) by rewrite [(show (m58.1 8) = (m11.1 8) from (fr1 Fm58 8 rfl))]; omega), (show (m58.1 69) ≤ 64 by rewrite [(show (m58.1 69) = (m11.1 69) from (fr1 Fm58 69 rfl))]; omega), (show (m.1 28) ≤ (m58.1 28) by rewrite [(show (m58.1 28) = (m11.1 28) from (fr1 Fm58 28 rfl))]; omega), (show okc (m58.2 65) (m.1 28) (m58.1 28) by rewrite [(show (m58.2 65) = (m11.2 65) from (fr2 Fm58 65 rfl)), (show (m58.1 28) = (m11.1 28) from (fr1 Fm58 28 rfl))]; first | (exact hOk) | (exfalso; omega)), (show CN (m58.2 65) (m58.2 67) (m58.1 28) by rewrite [(show (m58.2 65) = (m11.2 65) from (fr2 Fm58 65 rfl)), (show (m58.2 67) = (m11.2 67) from (fr2 Fm58 67 rfl)), (show (m58.1 28) = (m11.1 28) from (fr1 Fm58 28 rfl))]; first | (exact hCN) | (exfalso; omega)), (show agr (m.2 65) (m58.2 65) (m.1 28) by rewrite [(show (m58.2 65) = (m11.2 65) from (fr2 Fm58 65 rfl))]; first | (exact hAg) | (exfalso; omega))⟩), rfl⟩
        · skip
          clear c60
          clear h59
          have hf64 : 1 ≤ (m58.1 10) := by omega
          clear g18 h13 h31 g55a g55b
          exact J50_4 (mO m58 [] []) Tm58 (fr_m (fr_s Fm58 (fr_m (fr_s Fm11 (fr_m fr_0 rfl rfl) rfl rfl) rfl rfl) rfl rfl) rfl rfl) (show 1 ≤ (m58.1 10) by omega)
    · skip
      clear c14
      clear h12
      replace h13 : LxP (m11.1 7) (m11.1 8) (m11.1 9) (m.1 6) (m11.1 10) := h13
      have hLx := h13
      have hf65 : 1 ≤ (m11.1 10) := by omega
      refine T_gf 8 (.int (i32 (m11.1 10))) rfl rfl rfl rfl rfl rfl ?_
      refine T_if 50 11 rfl rfl rfl (r32 (by omega) (by omega)) (fun (h66 : (m11.1 10) ≠ 0) => ?_) (fun (h66 : ¬ ((m11.1 10) ≠ 0)) => by exfalso; omega)
      refine T_ret rfl (fun _ => rfl) ?_
      exact ⟨(mO m11 [] []), Tm11, (fr_m (fr_s Fm11 (fr_m fr_0 rfl rfl) rfl rfl) rfl rfl), (show (m11.1 10) = 0 → (m.1 10) = 0 by omega), (show LxP (m11.1 7) (m11.1 8) (m11.1 9) (m.1 6) (m11.1 10) by first | (first | exact hLx | exact (fun _ => hLx (by omega)) | (intro h9; exfalso; omega)) | (exfalso; omega)), (fun (h : (m11.1 10) = 0) => absurd h (by omega)), rfl⟩
  · skip
    clear hC
    refine T_ld 1 (.ref 189) rfl (fun _ => rfl) ?_
    refine T_call 4 244 [.ref 189] [] rfl (fun _ => rfl) rfl (c_readExpr w (mO m [] []) c N D (by omega) hT (show LxP (m.1 7) (m.1 8) (m.1 9) (m.1 6) (m.1 10) by first | exact hLx | exact (fun _ => hLx (by omega)) | (intro h9; exfalso; omega)) (show ∀ k, (m.2 14) k + (m.2 15) k ≤ 4000 by assumption) (show ∀ k, (m.2 31) k + (m.2 32) k ≤ 4000 by assumption) (show ∀ k, (m.2 47) k + (m.2 48) k ≤ 4000 by assumption) (fun (h : (m.1 10) = 0) => absurd h (by omega))) (fun rr67 k68 => ?_)
    obtain ⟨m69, Tm69, Fm69, h70, h71, c72, rfl⟩ := k68
    refine ⟨_, _, rfl, ?_⟩
    refine T_nb (st' := []) rfl ?_
    have g73 : 0 ≤ m69.1 7 ∧ m69.1 7 ≤ 330 := Tm69.1 7
    have g74 : 0 ≤ m69.1 8 ∧ m69.1 8 ≤ 4000 := Tm69.1 8
    have g75 : 0 ≤ m69.1 9 ∧ m69.1 9 ≤ 4000 := Tm69.1 9
    have g76 : 0 ≤ m69.1 10 ∧ m69.1 10 ≤ 8 := Tm69.1 10
    have g77 : 0 ≤ m69.1 28 ∧ m69.1 28 ≤ 800 := Tm69.1 28
    have g78 : 0 ≤ m69.1 69 ∧ m69.1 69 ≤ 1024 := Tm69.1 69
    have g79 : 0 ≤ m69.1 70 ∧ m69.1 70 ≤ 4000 := Tm69.1 70
    have g80 : 0 ≤ m69.1 71 ∧ m69.1 71 ≤ 1 := Tm69.1 71
    have g81 : (-9223372036854775808) ≤ m69.1 72 ∧ m69.1 72 ≤ 9223372036854775807 := Tm69.1 72
    replace h70 : (m69.1 10) = 0 → (m.1 10) = 0 := h70
    replace h71 : LxP (m69.1 7) (m69.1 8) (m69.1 9) (m.1 6) (m69.1 10) := h71
    have hf82 : 1 ≤ (m69.1 10) := by omega
    clear c72
    clear h70
    have hLx := h71
    refine T_gf 8 (.int (i32 (m69.1 10))) rfl rfl rfl rfl rfl rfl ?_
    refine T_if 50 11 rfl rfl rfl (r32 (by omega) (by omega)) (fun (h83 : (m69.1 10) ≠ 0) => ?_) (fun (h83 : ¬ ((m69.1 10) ≠ 0)) => by exfalso; omega)
    refine T_ret rfl (fun _ => rfl) ?_
    exact ⟨(mO m69 [] []), Tm69, (fr_m (fr_s Fm69 (fr_m fr_0 rfl rfl) rfl rfl) rfl rfl), (show (m69.1 10) = 0 → (m.1 10) = 0 by omega), (show LxP (m69.1 7) (m69.1 8) (m69.1 9) (m.1 6) (m69.1 10) by first | (first | exact hLx | exact (fun _ => hLx (by omega)) | (intro h9; exfalso; omega)) | (exfalso; omega)), (fun (h : (m69.1 10) = 0) => absurd h (by omega)), rfl⟩
