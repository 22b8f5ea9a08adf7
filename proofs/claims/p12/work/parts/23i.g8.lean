def fF_takeSelect : List Nat := [7, 8, 9, 10, 11, 12, 13, 23, 28, 69, 70, 71, 72, 73, 74, 75]
def fA_takeSelect : List Nat := [14, 15, 16, 17, 37, 38, 42, 43, 44, 45, 65, 66, 67, 68, 76, 77, 78, 79, 80, 81, 82, 83, 84, 85, 86, 87, 88, 89, 90, 91, 92, 95, 96, 97, 98]
def Q_takeSelect (m : mR) (c : Nat → Option am_C) (N : Nat) (d : Int) : ag_Re af_T → Prop := fun R => ∃ (M : mR), Ty M ∧ fr fF_takeSelect fA_takeSelect m M ∧ ((M.1 10) = 0 → (m.1 10) = 0) ∧ (LxP (M.1 7) (M.1 8) (M.1 9) (m.1 6) (M.1 10)) ∧ (∀ k, (M.2 14) k + (M.2 15) k ≤ 4000) ∧ (M.1 10 = 0 → ((m.1 8) + 1 ≤ (M.1 8)) ∧ (PN (M.1 13) (m.1 19) (m.1 20) (m.1 21) (m.1 22) (M.1 23) (m.1 25) (m.1 26) (M.2 16) (M.2 17)) ∧ (CN (M.2 65) (M.2 67) (M.1 28)) ∧ (SOp (M.2 38) (M.1 23) (m.1 24)) ∧ ((m.1 23) ≤ (M.1 23)) ∧ ((m.1 28) ≤ (M.1 28)) ∧ (agr (m.2 65) (M.2 65) (m.1 28)) ∧ (agr (m.2 42) (M.2 42) d) ∧ (agr (m.2 95) (M.2 95) d) ∧ (agr (m.2 96) (M.2 96) d) ∧ (agr (m.2 44) (M.2 44) d) ∧ (agr (m.2 45) (M.2 45) (8 * d)) ∧ (StR (M.2 65) (M.1 28) (M.1 23) d (M.2 42) (M.2 95) (M.2 96) (M.2 44) (M.2 45))) ∧ R = (.inl (none), (mhp M c, N), 0, 0)
set_option maxHeartbeats 3000000 in
theorem c_takeSelect (w : wX) (m : mR) (c : Nat → Option am_C) (N D : Nat) (hD : 11 ≤ D) (hT : Ty m) (d : Int) (qd : R32 d) (hLx0 : LxP (m.1 7) (m.1 8) (m.1 9) (m.1 6) (m.1 10)) (hNM0 : ∀ k, (m.2 14) k + (m.2 15) k ≤ 4000) (hFA0 : ∀ k, (m.2 31) k + (m.2 32) k ≤ 4000) (hPA0 : ∀ k, (m.2 47) k + (m.2 48) k ≤ 4000) (p4 : 0 ≤ d ∧ d ≤ 15) (hC : m.1 10 = 0 → (PN (m.1 13) (m.1 19) (m.1 20) (m.1 21) (m.1 22) (m.1 23) (m.1 25) (m.1 26) (m.2 16) (m.2 17)) ∧ (CN (m.2 65) (m.2 67) (m.1 28)) ∧ (SOp (m.2 38) (m.1 23) (m.1 24)) ∧ ((m.2 42) d = 0) ∧ ((m.1 7) ≠ 0)) : TC w D 243 [.ref 189, .int (i32 d)] (mhp m c, N) (Q_takeSelect m c N d) := by
  obtain ⟨D, rfl⟩ : ∃ k, D = k + 1 := ⟨D - 1, by omega⟩
  obtain ⟨qda, qdb⟩ := id qd
  have hLx := hLx0
  have hNM := hNM0
  have hFA := hFA0
  have hPA := hPA0
  have f7 : 0 ≤ m.1 7 ∧ m.1 7 ≤ 330 := hT.1 7
  have f8 : 0 ≤ m.1 8 ∧ m.1 8 ≤ 4000 := hT.1 8
  have f9 : 0 ≤ m.1 9 ∧ m.1 9 ≤ 4000 := hT.1 9
  have f10 : 0 ≤ m.1 10 ∧ m.1 10 ≤ 8 := hT.1 10
  have f13 : 0 ≤ m.1 13 ∧ m.1 13 ≤ 120 := hT.1 13
  have f23 : 0 ≤ m.1 23 ∧ m.1 23 ≤ 16 := hT.1 23
  have f28 : 0 ≤ m.1 28 ∧ m.1 28 ≤ 800 := hT.1 28
  have f69 : 0 ≤ m.1 69 ∧ m.1 69 ≤ 1024 := hT.1 69
  have f25 : 0 ≤ m.1 25 ∧ m.1 25 ≤ 16 := hT.1 25
  have f22 : 0 ≤ m.1 22 ∧ m.1 22 ≤ 8 := hT.1 22
  have f24 : 0 ≤ m.1 24 ∧ m.1 24 ≤ 16 := hT.1 24
  have f19 : 0 ≤ m.1 19 ∧ m.1 19 ≤ 12 := hT.1 19
  have f20 : 0 ≤ m.1 20 ∧ m.1 20 ≤ 12 := hT.1 20
  have f21 : 0 ≤ m.1 21 ∧ m.1 21 ≤ 16 := hT.1 21
  have f6 : 0 ≤ m.1 6 ∧ m.1 6 ≤ 4000 := hT.1 6
  have f26 : 0 ≤ m.1 26 ∧ m.1 26 ≤ 8 := hT.1 26
  refine Tc_of rfl ?_
  show TT w D pm_243 (0, [(0, .ref 189), (1, .int (i32 d))], [], (mhp (mO m [] []) c, N), 0, 0) (Q_takeSelect m c N d)
  by_cases hf0 : m.1 10 = 0
  · skip
    obtain ⟨pPN, hCN, pSO, hc0, c1⟩ := hC hf0
    have h7 := hLx (by omega)
    have hNM := hNM0
    have J102_13 : ∀ (m12 : mR), Ty m12 → fr [7, 8, 9, 10, 11, 12, 13, 23, 28, 69, 70, 71, 72, 73, 74, 75] [14, 15, 16, 17, 37, 38, 42, 43, 44, 45, 65, 66, 67, 68, 76, 77, 78, 79, 80, 81, 82, 83, 84, 85, 86, 87, 88, 89, 90, 91, 92, 95, 96, 97, 98] (mO m [] []) m12 → (∀ k, (m12.2 14) k + (m12.2 15) k ≤ 4000) → (1 ≤ (m12.1 10)) → TT w D pm_243 (102, [(0, .ref 189), (1, .int (i32 d))], [], (mhp (mO m12 [] []) c, N), 0, 0) (Q_takeSelect m c N d) := by
      intro m12 Tm12 Fm12 ic14 ic15
      have q16_7 : 0 ≤ m12.1 7 ∧ m12.1 7 ≤ 330 := Tm12.1 7
      have q16_8 : 0 ≤ m12.1 8 ∧ m12.1 8 ≤ 4000 := Tm12.1 8
      have q16_9 : 0 ≤ m12.1 9 ∧ m12.1 9 ≤ 4000 := Tm12.1 9
      have q16_10 : 0 ≤ m12.1 10 ∧ m12.1 10 ≤ 8 := Tm12.1 10
      have q16_13 : 0 ≤ m12.1 13 ∧ m12.1 13 ≤ 120 := Tm12.1 13
      have q16_23 : 0 ≤ m12.1 23 ∧ m12.1 23 ≤ 16 := Tm12.1 23
      have q16_28 : 0 ≤ m12.1 28 ∧ m12.1 28 ≤ 800 := Tm12.1 28
      have q16_69 : 0 ≤ m12.1 69 ∧ m12.1 69 ≤ 1024 := Tm12.1 69
      have hNM := ic14
      refine T_ret rfl (fun _ => rfl) ?_
      exact ⟨(mO m12 [] []), Tm12, (fr_m (fr_s Fm12 (fr_m fr_0 rfl rfl) rfl rfl) rfl rfl), (show (m12.1 10) = 0 → (m.1 10) = 0 by omega), (show LxP (m12.1 7) (m12.1 8) (m12.1 9) (m.1 6) (m12.1 10) by first | (first | exact hLx | exact (fun _ => hLx (by omega)) | (intro h9; exfalso; omega)) | (exfalso; omega)), (show ∀ k, (m12.2 14) k + (m12.2 15) k ≤ 4000 by first | (first | exact hNM | (intro k; rw [hE1, hE2]; have := hNM k; have h7 := hLx0 hf0; unfold upI; split <;> omega)) | (exfalso; omega)), (fun (h : (m12.1 10) = 0) => absurd h (by omega)), rfl⟩
    have J96_19 : ∀ (m18 : mR), Ty m18 → fr [7, 8, 9, 10, 11, 12, 13, 23, 28, 69, 70, 71, 72, 73, 74, 75] [14, 15, 16, 17, 37, 38, 42, 43, 44, 45, 65, 66, 67, 68, 76, 77, 78, 79, 80, 81, 82, 83, 84, 85, 86, 87, 88, 89, 90, 91, 92, 95, 96, 97, 98] (mO m [] []) m18 → (∀ k, (m18.2 14) k + (m18.2 15) k ≤ 4000) → (1 ≤ (m18.1 10)) → TT w D pm_243 (96, [(0, .ref 189), (1, .int (i32 d))], [], (mhp (mO m18 [] []) c, N), 0, 0) (Q_takeSelect m c N d) := by
      intro m18 Tm18 Fm18 ic20 ic21
      have q22_7 : 0 ≤ m18.1 7 ∧ m18.1 7 ≤ 330 := Tm18.1 7
      have q22_8 : 0 ≤ m18.1 8 ∧ m18.1 8 ≤ 4000 := Tm18.1 8
      have q22_9 : 0 ≤ m18.1 9 ∧ m18.1 9 ≤ 4000 := Tm18.1 9
      have q22_10 : 0 ≤ m18.1 10 ∧ m18.1 10 ≤ 8 := Tm18.1 10
      have q22_13 : 0 ≤ m18.1 13 ∧ m18.1 13 ≤ 120 := Tm18.1 13
      have q22_23 : 0 ≤ m18.1 23 ∧ m18.1 23 ≤ 16 := Tm18.1 23
      have q22_28 : 0 ≤ m18.1 28 ∧ m18.1 28 ≤ 800 := Tm18.1 28
      have q22_69 : 0 ≤ m18.1 69 ∧ m18.1 69 ≤ 1024 := Tm18.1 69
      have hNM := ic20
      refine T_ld 97 (.ref 189) rfl (fun _ => rfl) ?_
      refine T_ld 99 (.int (i32 125)) rfl (fun _ => rfl) ?_
      refine T_call 102 232 [.ref 189, .int (i32 125)] [] rfl (fun _ => rfl) rfl (d_need w (mO m18 [] []) c N D (by omega) Tm18 125 ⟨by decide, by decide⟩ (show 1 ≤ (125 : Int) by omega) (show LxP (m18.1 7) (m18.1 8) (m18.1 9) (m18.1 6) (m18.1 10) by rewrite [(show (m18.1 6) = (m.1 6) from (fr1 Fm18 6 rfl))]; first | exact hLx | (intro h9; exfalso; omega) | (intro h9; have h8 := hLx (by omega); omega))) (fun rr24 k25 => ?_)
      obtain ⟨m26, Tm26, Fm26, h27, h28, h29, h30, rfl⟩ := k25
      refine ⟨_, _, rfl, ?_⟩
      refine T_nb (st' := []) rfl ?_
      have g31 : 0 ≤ m26.1 7 ∧ m26.1 7 ≤ 330 := Tm26.1 7
      have g32 : 0 ≤ m26.1 8 ∧ m26.1 8 ≤ 4000 := Tm26.1 8
      have g33 : 0 ≤ m26.1 9 ∧ m26.1 9 ≤ 4000 := Tm26.1 9
      have g34 : 0 ≤ m26.1 10 ∧ m26.1 10 ≤ 8 := Tm26.1 10
      replace h27 : LxP (m26.1 7) (m26.1 8) (m26.1 9) (m18.1 6) (m26.1 10) := h27
      rewrite [(show (m18.1 6) = (m.1 6) from (fr1 Fm18 6 rfl))] at h27
      replace h28 : (m26.1 10) = 0 → (m18.1 10) = 0 ∧ (m18.1 7) = (125 : Int) := h28
      replace h29 : (m18.1 8) ≤ (m26.1 8) := h29
      replace h30 : (m26.1 10) = 0 → (m18.1 8) + (m18.1 9) ≤ (m26.1 8) := h30
      have hf35 : 1 ≤ (m26.1 10) := by omega
      clear h28
      clear h30
      have hLx := h27
      clear q22_7 q22_8 q22_9 q22_10 ic21 h29
      exact J102_13 (mO m26 [] []) Tm26 (fr_m (fr_s Fm26 (fr_m (fr_s Fm18 (fr_m fr_0 rfl rfl) rfl rfl) rfl rfl) rfl rfl) rfl rfl) (show ∀ k, (m26.2 14) k + (m26.2 15) k ≤ 4000 by rewrite [(show (m26.2 14) = (m18.2 14) from (fr2 Fm26 14 rfl)), (show (m26.2 15) = (m18.2 15) from (fr2 Fm26 15 rfl))]; first | exact hNM) (show 1 ≤ (m26.1 10) by omega)
    have J89_38 : ∀ (s36 : Int) (m37 : mR), (R32 s36) → Ty m37 → fr [7, 8, 9, 10, 11, 12, 13, 23, 28, 69, 70, 71, 72, 73, 74, 75] [14, 15, 16, 17, 37, 38, 42, 43, 45, 65, 66, 67, 68, 76, 77, 78, 79, 80, 81, 82, 83, 84, 85, 86, 87, 88, 89, 90, 91, 92, 95, 96, 97, 98] (mO m [] []) m37 → ((-2) ≤ s36) → (s36 ≤ 15) → (∀ k, (m37.2 14) k + (m37.2 15) k ≤ 4000) → (1 ≤ (m37.1 10)) → TT w D pm_243 (89, [(0, .ref 189), (1, .int (i32 d))], [.int (i32 s36), .int (i32 d), .ref 214], (mhp (mO m37 [] []) c, N), 0, 0) (Q_takeSelect m c N d) := by
      intro s36 m37 q43 Tm37 Fm37 ic39 ic40 ic41 ic42
      obtain ⟨q43a, q43b⟩ := id q43
      have q44_7 : 0 ≤ m37.1 7 ∧ m37.1 7 ≤ 330 := Tm37.1 7
      have q44_8 : 0 ≤ m37.1 8 ∧ m37.1 8 ≤ 4000 := Tm37.1 8
      have q44_9 : 0 ≤ m37.1 9 ∧ m37.1 9 ≤ 4000 := Tm37.1 9
      have q44_10 : 0 ≤ m37.1 10 ∧ m37.1 10 ≤ 8 := Tm37.1 10
      have q44_13 : 0 ≤ m37.1 13 ∧ m37.1 13 ≤ 120 := Tm37.1 13
      have q44_23 : 0 ≤ m37.1 23 ∧ m37.1 23 ≤ 16 := Tm37.1 23
      have q44_28 : 0 ≤ m37.1 28 ∧ m37.1 28 ≤ 800 := Tm37.1 28
      have q44_69 : 0 ≤ m37.1 69 ∧ m37.1 69 ≤ 1024 := Tm37.1 69
      have hNM := ic41
      have G46 : ∀ j, (-2) ≤ (upI (m.2 44) d s36) j ∧ (upI (m.2 44) d s36) j ≤ 15 := upI_rg (hT.2.1 44) ⟨by omega, by omega⟩
      refine T_iast (a' := [(44, upI (m.2 44) d s36)]) 90 44 (m.2 44) rfl rfl rfl (by omega) (show d < (16 : Int) by omega) (show (m37.2 44) = (m.2 44) from (fr2 Fm37 44 rfl)) rfl ?_
      refine T_ld 91 (.ref 189) rfl (fun _ => rfl) ?_
      refine T_ld 93 (.int (i32 59)) rfl (fun _ => rfl) ?_
      refine T_call 96 232 [.ref 189, .int (i32 59)] [] rfl (fun _ => rfl) rfl (d_need w (mO m37 [] [(44, upI (m.2 44) d s36)]) c N D (by omega) (Ty_mO Tm37 rfl rfl trivial ⟨G46, trivial⟩) 59 ⟨by decide, by decide⟩ (show 1 ≤ (59 : Int) by omega) (show LxP (m37.1 7) (m37.1 8) (m37.1 9) (m37.1 6) (m37.1 10) by rewrite [(show (m37.1 6) = (m.1 6) from (fr1 Fm37 6 rfl))]; first | exact hLx | (intro h9; exfalso; omega) | (intro h9; have h8 := hLx (by omega); omega))) (fun rr47 k48 => ?_)
      obtain ⟨m49, Tm49, Fm49, h50, h51, h52, h53, rfl⟩ := k48
      refine ⟨_, _, rfl, ?_⟩
      refine T_nb (st' := []) rfl ?_
      have g54 : 0 ≤ m49.1 7 ∧ m49.1 7 ≤ 330 := Tm49.1 7
      have g55 : 0 ≤ m49.1 8 ∧ m49.1 8 ≤ 4000 := Tm49.1 8
      have g56 : 0 ≤ m49.1 9 ∧ m49.1 9 ≤ 4000 := Tm49.1 9
      have g57 : 0 ≤ m49.1 10 ∧ m49.1 10 ≤ 8 := Tm49.1 10
      replace h50 : LxP (m49.1 7) (m49.1 8) (m49.1 9) (m37.1 6) (m49.1 10) := h50
      rewrite [(show (m37.1 6) = (m.1 6) from (fr1 Fm37 6 rfl))] at h50
      replace h51 : (m49.1 10) = 0 → (m37.1 10) = 0 ∧ (m37.1 7) = (59 : Int) := h51
      replace h52 : (m37.1 8) ≤ (m49.1 8) := h52
      replace h53 : (m49.1 10) = 0 → (m37.1 8) + (m37.1 9) ≤ (m49.1 8) := h53
      have hf58 : 1 ≤ (m49.1 10) := by omega
      clear h51
      clear h53
      have hLx := h50
      clear q44_7 q44_8 q44_9 q44_10 ic42 h52
      exact J96_19 (mO m49 [] []) Tm49 (fr_m (fr_s Fm49 (fr_m (fr_s Fm37 (fr_m fr_0 rfl rfl) rfl rfl) rfl rfl) rfl rfl) rfl rfl) (show ∀ k, (m49.2 14) k + (m49.2 15) k ≤ 4000 by rewrite [(show (m49.2 14) = (m37.2 14) from (fr2 Fm49 14 rfl)), (show (m49.2 15) = (m37.2 15) from (fr2 Fm49 15 rfl))]; first | exact hNM) (show 1 ≤ (m49.1 10) by omega)
    have J80_60 : ∀ (m59 : mR), Ty m59 → fr [7, 8, 9, 10, 11, 12, 13, 23, 28, 69, 70, 71, 72, 73, 74, 75] [14, 15, 16, 17, 37, 38, 42, 43, 45, 65, 66, 67, 68, 76, 77, 78, 79, 80, 81, 82, 83, 84, 85, 86, 87, 88, 89, 90, 91, 92, 95, 96, 97, 98] (mO m [] []) m59 → (∀ k, (m59.2 14) k + (m59.2 15) k ≤ 4000) → (1 ≤ (m59.1 10)) → TT w D pm_243 (80, [(0, .ref 189), (1, .int (i32 d))], [], (mhp (mO m59 [] []) c, N), 0, 0) (Q_takeSelect m c N d) := by
      intro m59 Tm59 Fm59 ic61 ic62
      have q63_7 : 0 ≤ m59.1 7 ∧ m59.1 7 ≤ 330 := Tm59.1 7
      have q63_8 : 0 ≤ m59.1 8 ∧ m59.1 8 ≤ 4000 := Tm59.1 8
      have q63_9 : 0 ≤ m59.1 9 ∧ m59.1 9 ≤ 4000 := Tm59.1 9
      have q63_10 : 0 ≤ m59.1 10 ∧ m59.1 10 ≤ 8 := Tm59.1 10
      have q63_13 : 0 ≤ m59.1 13 ∧ m59.1 13 ≤ 120 := Tm59.1 13
      have q63_23 : 0 ≤ m59.1 23 ∧ m59.1 23 ≤ 16 := Tm59.1 23
      have q63_28 : 0 ≤ m59.1 28 ∧ m59.1 28 ≤ 800 := Tm59.1 28
      have q63_69 : 0 ≤ m59.1 69 ∧ m59.1 69 ≤ 1024 := Tm59.1 69
      have hNM := ic61
      refine T_gf 84 (.ref 214) rfl rfl rfl rfl rfl rfl ?_
      refine T_ld 85 (.int (i32 d)) rfl (fun _ => rfl) ?_
      refine T_ld 86 (.ref 189) rfl (fun _ => rfl) ?_
      refine T_call 89 242 [.ref 189] [.int (i32 d), .ref 214] rfl (fun _ => rfl) rfl (c_stateHere w (mO m59 [] []) c N D (by omega) Tm59 (show LxP (m59.1 7) (m59.1 8) (m59.1 9) (m59.1 6) (m59.1 10) by rewrite [(show (m59.1 6) = (m.1 6) from (fr1 Fm59 6 rfl))]; first | exact hLx | exact (fun _ => hLx (by omega)) | (intro h9; exfalso; omega)) (show ∀ k, (m59.2 14) k + (m59.2 15) k ≤ 4000 by assumption) (fun (h : (m59.1 10) = 0) => absurd h (by omega))) (fun rr65 k66 => ?_)
      obtain ⟨m67, x68, Tm67, Fm67, g69, h70, h71, h72, c73, rfl⟩ := k66
      refine ⟨_, _, rfl, ?_⟩
      refine T_nb (st' := [.int (i32 x68), .int (i32 d), .ref 214]) rfl ?_
      obtain ⟨g69a, g69b⟩ := g69
      have g74 : 0 ≤ m67.1 7 ∧ m67.1 7 ≤ 330 := Tm67.1 7
      have g75 : 0 ≤ m67.1 8 ∧ m67.1 8 ≤ 4000 := Tm67.1 8
      have g76 : 0 ≤ m67.1 9 ∧ m67.1 9 ≤ 4000 := Tm67.1 9
      have g77 : 0 ≤ m67.1 10 ∧ m67.1 10 ≤ 8 := Tm67.1 10
      have g78 : 0 ≤ m67.1 13 ∧ m67.1 13 ≤ 120 := Tm67.1 13
      have g79 : 0 ≤ m67.1 23 ∧ m67.1 23 ≤ 16 := Tm67.1 23
      replace h70 : (m67.1 10) = 0 → (m59.1 10) = 0 := h70
      replace h71 : LxP (m67.1 7) (m67.1 8) (m67.1 9) (m59.1 6) (m67.1 10) := h71
      rewrite [(show (m59.1 6) = (m.1 6) from (fr1 Fm59 6 rfl))] at h71
      replace h72 : ∀ k, (m67.2 14) k + (m67.2 15) k ≤ 4000 := h72
      have hf80 : 1 ≤ (m67.1 10) := by omega
      clear c73
      clear h70
      have hLx := h71
      have hNM := h72
      clear q63_7 q63_8 q63_9 q63_10 q63_13 q63_23 ic61 ic62
      exact J89_38 x68 (mO m67 [] []) (r32 (by omega) (by omega)) Tm67 (fr_m (fr_s Fm67 (fr_m (fr_s Fm59 (fr_m fr_0 rfl rfl) rfl rfl) rfl rfl) rfl rfl) rfl rfl) (show (-2) ≤ x68 by omega) (show x68 ≤ 15 by omega) (show ∀ k, (m67.2 14) k + (m67.2 15) k ≤ 4000 by first | exact hNM) (show 1 ≤ (m67.1 10) by omega)
    have J74_82 : ∀ (m81 : mR), Ty m81 → fr [7, 8, 9, 10, 11, 12, 13, 23, 28, 69, 70, 71, 72, 73, 74, 75] [14, 15, 16, 17, 37, 38, 42, 43, 45, 65, 66, 67, 68, 76, 77, 78, 79, 80, 81, 82, 83, 84, 85, 86, 87, 88, 89, 90, 91, 92, 95, 96, 97, 98] (mO m [] []) m81 → (∀ k, (m81.2 14) k + (m81.2 15) k ≤ 4000) → (1 ≤ (m81.1 10)) → TT w D pm_243 (74, [(0, .ref 189), (1, .int (i32 d))], [], (mhp (mO m81 [] []) c, N), 0, 0) (Q_takeSelect m c N d) := by
      intro m81 Tm81 Fm81 ic83 ic84
      have q85_7 : 0 ≤ m81.1 7 ∧ m81.1 7 ≤ 330 := Tm81.1 7
      have q85_8 : 0 ≤ m81.1 8 ∧ m81.1 8 ≤ 4000 := Tm81.1 8
      have q85_9 : 0 ≤ m81.1 9 ∧ m81.1 9 ≤ 4000 := Tm81.1 9
      have q85_10 : 0 ≤ m81.1 10 ∧ m81.1 10 ≤ 8 := Tm81.1 10
      have q85_13 : 0 ≤ m81.1 13 ∧ m81.1 13 ≤ 120 := Tm81.1 13
      have q85_23 : 0 ≤ m81.1 23 ∧ m81.1 23 ≤ 16 := Tm81.1 23
      have q85_28 : 0 ≤ m81.1 28 ∧ m81.1 28 ≤ 800 := Tm81.1 28
      have q85_69 : 0 ≤ m81.1 69 ∧ m81.1 69 ≤ 1024 := Tm81.1 69
      have hNM := ic83
      refine T_ld 75 (.ref 189) rfl (fun _ => rfl) ?_
      refine T_ld 77 (.int (i32 58)) rfl (fun _ => rfl) ?_
      refine T_call 80 232 [.ref 189, .int (i32 58)] [] rfl (fun _ => rfl) rfl (d_need w (mO m81 [] []) c N D (by omega) Tm81 58 ⟨by decide, by decide⟩ (show 1 ≤ (58 : Int) by omega) (show LxP (m81.1 7) (m81.1 8) (m81.1 9) (m81.1 6) (m81.1 10) by rewrite [(show (m81.1 6) = (m.1 6) from (fr1 Fm81 6 rfl))]; first | exact hLx | (intro h9; exfalso; omega) | (intro h9; have h8 := hLx (by omega); omega))) (fun rr87 k88 => ?_)
      obtain ⟨m89, Tm89, Fm89, h90, h91, h92, h93, rfl⟩ := k88
      refine ⟨_, _, rfl, ?_⟩
      refine T_nb (st' := []) rfl ?_
      have g94 : 0 ≤ m89.1 7 ∧ m89.1 7 ≤ 330 := Tm89.1 7
      have g95 : 0 ≤ m89.1 8 ∧ m89.1 8 ≤ 4000 := Tm89.1 8
      have g96 : 0 ≤ m89.1 9 ∧ m89.1 9 ≤ 4000 := Tm89.1 9
      have g97 : 0 ≤ m89.1 10 ∧ m89.1 10 ≤ 8 := Tm89.1 10
      replace h90 : LxP (m89.1 7) (m89.1 8) (m89.1 9) (m81.1 6) (m89.1 10) := h90
      rewrite [(show (m81.1 6) = (m.1 6) from (fr1 Fm81 6 rfl))] at h90
      replace h91 : (m89.1 10) = 0 → (m81.1 10) = 0 ∧ (m81.1 7) = (58 : Int) := h91
      replace h92 : (m81.1 8) ≤ (m89.1 8) := h92
      replace h93 : (m89.1 10) = 0 → (m81.1 8) + (m81.1 9) ≤ (m89.1 8) := h93
      have hf98 : 1 ≤ (m89.1 10) := by omega
      clear h91
      clear h93
      have hLx := h90
      clear q85_7 q85_8 q85_9 q85_10 ic84 h92
      exact J80_60 (mO m89 [] []) Tm89 (fr_m (fr_s Fm89 (fr_m (fr_s Fm81 (fr_m fr_0 rfl rfl) rfl rfl) rfl rfl) rfl rfl) rfl rfl) (show ∀ k, (m89.2 14) k + (m89.2 15) k ≤ 4000 by rewrite [(show (m89.2 14) = (m81.2 14) from (fr2 Fm89 14 rfl)), (show (m89.2 15) = (m81.2 15) from (fr2 Fm89 15 rfl))]; first | exact hNM) (show 1 ≤ (m89.1 10) by omega)
    have J64_100 : ∀ (m99 : mR), Ty m99 → fr [7, 8, 9, 10, 11, 12, 13, 23, 28, 69, 70, 71, 72, 73, 74, 75] [14, 15, 16, 17, 37, 38, 42, 43, 45, 65, 66, 67, 68, 76, 77, 78, 79, 80, 81, 82, 83, 84, 85, 86, 87, 88, 89, 90, 91, 92, 95, 96, 97, 98] (mO m [] []) m99 → (∀ k, (m99.2 14) k + (m99.2 15) k ≤ 4000) → (1 ≤ (m99.1 10)) → TT w D pm_243 (64, [(0, .ref 189), (1, .int (i32 d))], [], (mhp (mO m99 [] []) c, N), 0, 0) (Q_takeSelect m c N d) := by
      intro m99 Tm99 Fm99 ic101 ic102
      have q103_7 : 0 ≤ m99.1 7 ∧ m99.1 7 ≤ 330 := Tm99.1 7
      have q103_8 : 0 ≤ m99.1 8 ∧ m99.1 8 ≤ 4000 := Tm99.1 8
      have q103_9 : 0 ≤ m99.1 9 ∧ m99.1 9 ≤ 4000 := Tm99.1 9
      have q103_10 : 0 ≤ m99.1 10 ∧ m99.1 10 ≤ 8 := Tm99.1 10
      have q103_13 : 0 ≤ m99.1 13 ∧ m99.1 13 ≤ 120 := Tm99.1 13
      have q103_23 : 0 ≤ m99.1 23 ∧ m99.1 23 ≤ 16 := Tm99.1 23
      have q103_28 : 0 ≤ m99.1 28 ∧ m99.1 28 ≤ 800 := Tm99.1 28
      have q103_69 : 0 ≤ m99.1 69 ∧ m99.1 69 ≤ 1024 := Tm99.1 69
      have hNM := ic101
      refine T_goto 44 rfl (fun _ => rfl) ?_
      refine T_gf 48 (.int (i32 (m99.1 10))) rfl rfl rfl rfl rfl rfl ?_
      refine T_if 67 51 rfl rfl rfl (r32 (by omega) (by omega)) (fun (h105 : (m99.1 10) ≠ 0) => ?_) (fun (h105 : ¬ ((m99.1 10) ≠ 0)) => by exfalso; omega)
      refine T_ld 68 (.ref 189) rfl (fun _ => rfl) ?_
      refine T_ld 71 (.int (i32 308)) rfl (fun _ => rfl) ?_
      refine T_call 74 232 [.ref 189, .int (i32 308)] [] rfl (fun _ => rfl) rfl (d_need w (mO m99 [] []) c N D (by omega) Tm99 308 ⟨by decide, by decide⟩ (show 1 ≤ (308 : Int) by omega) (show LxP (m99.1 7) (m99.1 8) (m99.1 9) (m99.1 6) (m99.1 10) by rewrite [(show (m99.1 6) = (m.1 6) from (fr1 Fm99 6 rfl))]; first | exact hLx | (intro h9; exfalso; omega) | (intro h9; have h8 := hLx (by omega); omega))) (fun rr106 k107 => ?_)
      obtain ⟨m108, Tm108, Fm108, h109, h110, h111, h112, rfl⟩ := k107
      refine ⟨_, _, rfl, ?_⟩
      refine T_nb (st' := []) rfl ?_
      have g113 : 0 ≤ m108.1 7 ∧ m108.1 7 ≤ 330 := Tm108.1 7
      have g114 : 0 ≤ m108.1 8 ∧ m108.1 8 ≤ 4000 := Tm108.1 8
      have g115 : 0 ≤ m108.1 9 ∧ m108.1 9 ≤ 4000 := Tm108.1 9
      have g116 : 0 ≤ m108.1 10 ∧ m108.1 10 ≤ 8 := Tm108.1 10
      replace h109 : LxP (m108.1 7) (m108.1 8) (m108.1 9) (m99.1 6) (m108.1 10) := h109
      rewrite [(show (m99.1 6) = (m.1 6) from (fr1 Fm99 6 rfl))] at h109
      replace h110 : (m108.1 10) = 0 → (m99.1 10) = 0 ∧ (m99.1 7) = (308 : Int) := h110
      replace h111 : (m99.1 8) ≤ (m108.1 8) := h111
      replace h112 : (m108.1 10) = 0 → (m99.1 8) + (m99.1 9) ≤ (m108.1 8) := h112
      have hf117 : 1 ≤ (m108.1 10) := by omega
      clear h110
      clear h112
      have hLx := h109
      clear q103_7 q103_8 q103_9 q103_10 ic102 h105 h111
      exact J74_82 (mO m108 [] []) Tm108 (fr_m (fr_s Fm108 (fr_m (fr_s Fm99 (fr_m fr_0 rfl rfl) rfl rfl) rfl rfl) rfl rfl) rfl rfl) (show ∀ k, (m108.2 14) k + (m108.2 15) k ≤ 4000 by rewrite [(show (m108.2 14) = (m99.2 14) from (fr2 Fm108 14 rfl)), (show (m108.2 15) = (m99.2 15) from (fr2 Fm108 15 rfl))]; first | exact hNM) (show 1 ≤ (m108.1 10) by omega)
    have J44_119 : ∀ (m118 : mR), Ty m118 → fr [7, 8, 9, 10, 11, 12, 28, 69, 70, 71, 72, 73, 74, 75] [43, 65, 66, 67, 68, 76, 77, 78, 79, 80, 81, 82, 83, 84, 85, 86, 87, 88, 89, 90, 91, 92, 95, 96] (mO m [] []) m118 → (∀ k, (m.2 14) k + (m.2 15) k ≤ 4000) → (1 ≤ (m118.1 10)) → TT w D pm_243 (44, [(0, .ref 189), (1, .int (i32 d))], [], (mhp (mO m118 [] []) c, N), 0, 0) (Q_takeSelect m c N d) := by
      intro m118 Tm118 Fm118 ic120 ic121
      have q122_7 : 0 ≤ m118.1 7 ∧ m118.1 7 ≤ 330 := Tm118.1 7
      have q122_8 : 0 ≤ m118.1 8 ∧ m118.1 8 ≤ 4000 := Tm118.1 8
      have q122_9 : 0 ≤ m118.1 9 ∧ m118.1 9 ≤ 4000 := Tm118.1 9
      have q122_10 : 0 ≤ m118.1 10 ∧ m118.1 10 ≤ 8 := Tm118.1 10
      have q122_28 : 0 ≤ m118.1 28 ∧ m118.1 28 ≤ 800 := Tm118.1 28
      have q122_69 : 0 ≤ m118.1 69 ∧ m118.1 69 ≤ 1024 := Tm118.1 69
      have hNM := ic120
      refine T_gf 48 (.int (i32 (m118.1 10))) rfl rfl rfl rfl rfl rfl ?_
      refine T_if 67 51 rfl rfl rfl (r32 (by omega) (by omega)) (fun (h124 : (m118.1 10) ≠ 0) => ?_) (fun (h124 : ¬ ((m118.1 10) ≠ 0)) => by exfalso; omega)
      refine T_ld 68 (.ref 189) rfl (fun _ => rfl) ?_
      refine T_ld 71 (.int (i32 308)) rfl (fun _ => rfl) ?_
      refine T_call 74 232 [.ref 189, .int (i32 308)] [] rfl (fun _ => rfl) rfl (d_need w (mO m118 [] []) c N D (by omega) Tm118 308 ⟨by decide, by decide⟩ (show 1 ≤ (308 : Int) by omega) (show LxP (m118.1 7) (m118.1 8) (m118.1 9) (m118.1 6) (m118.1 10) by rewrite [(show (m118.1 6) = (m.1 6) from (fr1 Fm118 6 rfl))]; first | exact hLx | (intro h9; exfalso; omega) | (intro h9; have h8 := hLx (by omega); omega))) (fun rr125 k126 => ?_)
      obtain ⟨m127, Tm127, Fm127, h128, h129, h130, h131, rfl⟩ := k126
      refine ⟨_, _, rfl, ?_⟩
      refine T_nb (st' := []) rfl ?_
      have g132 : 0 ≤ m127.1 7 ∧ m127.1 7 ≤ 330 := Tm127.1 7
      have g133 : 0 ≤ m127.1 8 ∧ m127.1 8 ≤ 4000 := Tm127.1 8
      have g134 : 0 ≤ m127.1 9 ∧ m127.1 9 ≤ 4000 := Tm127.1 9
      have g135 : 0 ≤ m127.1 10 ∧ m127.1 10 ≤ 8 := Tm127.1 10
      replace h128 : LxP (m127.1 7) (m127.1 8) (m127.1 9) (m118.1 6) (m127.1 10) := h128
      rewrite [(show (m118.1 6) = (m.1 6) from (fr1 Fm118 6 rfl))] at h128
      replace h129 : (m127.1 10) = 0 → (m118.1 10) = 0 ∧ (m118.1 7) = (308 : Int) := h129
      replace h130 : (m118.1 8) ≤ (m127.1 8) := h130
      replace h131 : (m127.1 10) = 0 → (m118.1 8) + (m118.1 9) ≤ (m127.1 8) := h131
      have hf136 : 1 ≤ (m127.1 10) := by omega
      clear h129
      clear h131
      have hLx := h128
      clear q122_7 q122_8 q122_9 q122_10 ic121 h124 h130
      exact J74_82 (mO m127 [] []) Tm127 (fr_m (fr_s Fm127 (fr_m (fr_s Fm118 (fr_m fr_0 rfl rfl) rfl rfl) rfl rfl) rfl rfl) rfl rfl) (show ∀ k, (m127.2 14) k + (m127.2 15) k ≤ 4000 by rewrite [(show (m127.2 14) = (m.2 14) from ((fr2 Fm127 14 rfl).trans (fr2 Fm118 14 rfl))), (show (m127.2 15) = (m.2 15) from ((fr2 Fm127 15 rfl).trans (fr2 Fm118 15 rfl)))]; first | exact hNM) (show 1 ≤ (m127.1 10) by omega)
    have J18_138 : ∀ (m137 : mR), Ty m137 → fr [7, 8, 9, 10, 11, 12, 28, 69, 70, 71, 72, 73, 74, 75] [65, 66, 67, 68, 76, 77, 78, 79, 80, 81, 82, 83, 84, 85, 86, 87, 88, 89, 90, 91, 92, 95] (mO m [] []) m137 → (∀ k, (m.2 14) k + (m.2 15) k ≤ 4000) → (1 ≤ (m137.1 10)) → TT w D pm_243 (18, [(0, .ref 189), (1, .int (i32 d))], [], (mhp (mO m137 [] []) c, N), 0, 0) (Q_takeSelect m c N d) := by
      intro m137 Tm137 Fm137 ic139 ic140
      have q141_7 : 0 ≤ m137.1 7 ∧ m137.1 7 ≤ 330 := Tm137.1 7
      have q141_8 : 0 ≤ m137.1 8 ∧ m137.1 8 ≤ 4000 := Tm137.1 8
      have q141_9 : 0 ≤ m137.1 9 ∧ m137.1 9 ≤ 4000 := Tm137.1 9
      have q141_10 : 0 ≤ m137.1 10 ∧ m137.1 10 ≤ 8 := Tm137.1 10
      have q141_28 : 0 ≤ m137.1 28 ∧ m137.1 28 ≤ 800 := Tm137.1 28
      have q141_69 : 0 ≤ m137.1 69 ∧ m137.1 69 ≤ 1024 := Tm137.1 69
      have hNM := ic139
      refine T_gf 22 (.ref 258) rfl rfl rfl rfl rfl rfl ?_
      refine T_ld 23 (.int (i32 d)) rfl (fun _ => rfl) ?_
      refine T_gf 27 (.int (i32 (m137.1 28))) rfl rfl rfl rfl rfl rfl ?_
      have G143 : ∀ j, 0 ≤ (upI (m.2 96) d (m137.1 28)) j ∧ (upI (m.2 96) d (m137.1 28)) j ≤ 800 := upI_rg (hT.2.1 96) ⟨by omega, by omega⟩
      refine T_iast (a' := [(96, upI (m.2 96) d (m137.1 28))]) 28 96 (m.2 96) rfl rfl rfl (by omega) (show d < (16 : Int) by omega) (show (m137.2 96) = (m.2 96) from (fr2 Fm137 96 rfl)) rfl ?_
      refine T_gf 32 (.ref 213) rfl rfl rfl rfl rfl rfl ?_
      refine T_ld 33 (.int (i32 d)) rfl (fun _ => rfl) ?_
      refine T_gf 37 (.int (i32 (m137.1 69))) rfl rfl rfl rfl rfl rfl ?_
      have G144 : ∀ j, 0 ≤ (upI (m.2 43) d (m137.1 69)) j ∧ (upI (m.2 43) d (m137.1 69)) j ≤ 1024 := upI_rg (hT.2.1 43) ⟨by omega, by omega⟩
      refine T_iast (a' := [(43, upI (m.2 43) d (m137.1 69)), (96, upI (m.2 96) d (m137.1 28))]) 38 43 (m.2 43) rfl rfl rfl (by omega) (show d < (16 : Int) by omega) (show (m137.2 43) = (m.2 43) from (fr2 Fm137 43 rfl)) rfl ?_
      refine T_ld 39 (.ref 189) rfl (fun _ => rfl) ?_
      refine T_ld 41 (.int (i32 123)) rfl (fun _ => rfl) ?_
      refine T_call 44 232 [.ref 189, .int (i32 123)] [] rfl (fun _ => rfl) rfl (d_need w (mO m137 [] [(43, upI (m.2 43) d (m137.1 69)), (96, upI (m.2 96) d (m137.1 28))]) c N D (by omega) (Ty_mO Tm137 rfl rfl trivial ⟨G144, G143, trivial⟩) 123 ⟨by decide, by decide⟩ (show 1 ≤ (123 : Int) by omega) (show LxP (m137.1 7) (m137.1 8) (m137.1 9) (m137.1 6) (m137.1 10) by rewrite [(show (m137.1 6) = (m.1 6) from (fr1 Fm137 6 rfl))]; first | exact hLx | (intro h9; exfalso; omega) | (intro h9; have h8 := hLx (by omega); omega))) (fun rr145 k146 => ?_)
      obtain ⟨m147, Tm147, Fm147, h148, h149, h150, h151, rfl⟩ := k146
      refine ⟨_, _, rfl, ?_⟩
      refine T_nb (st' := []) rfl ?_
      have g152 : 0 ≤ m147.1 7 ∧ m147.1 7 ≤ 330 := Tm147.1 7
      have g153 : 0 ≤ m147.1 8 ∧ m147.1 8 ≤ 4000 := Tm147.1 8
      have g154 : 0 ≤ m147.1 9 ∧ m147.1 9 ≤ 4000 := Tm147.1 9
      have g155 : 0 ≤ m147.1 10 ∧ m147.1 10 ≤ 8 := Tm147.1 10
      replace h148 : LxP (m147.1 7) (m147.1 8) (m147.1 9) (m137.1 6) (m147.1 10) := h148
      rewrite [(show (m137.1 6) = (m.1 6) from (fr1 Fm137 6 rfl))] at h148
      replace h149 : (m147.1 10) = 0 → (m137.1 10) = 0 ∧ (m137.1 7) = (123 : Int) := h149
      replace h150 : (m137.1 8) ≤ (m147.1 8) := h150
      replace h151 : (m147.1 10) = 0 → (m137.1 8) + (m137.1 9) ≤ (m147.1 8) := h151
      have hf156 : 1 ≤ (m147.1 10) := by omega
      clear h149
      clear h151
      have hLx := h148
      clear q141_7 q141_8 q141_9 q141_10 ic140 h150
      exact J44_119 (mO m147 [] []) Tm147 (fr_m (fr_s Fm147 (fr_m (fr_s Fm137 (fr_m fr_0 rfl rfl) rfl rfl) rfl rfl) rfl rfl) rfl rfl) (show ∀ k, (m.2 14) k + (m.2 15) k ≤ 4000 by first | exact hNM) (show 1 ≤ (m147.1 10) by omega)
    refine T_ld 1 (.ref 189) rfl (fun _ => rfl) ?_
    refine T_call 4 212 [.ref 189] [] rfl (fun _ => rfl) rfl (d_next w (mO m [] []) c N D (by omega) hT (show (m.1 10) = 0 → (m.1 8) + (m.1 9) ≤ (m.1 6) by first | omega | (intro h9; have h8 := hLx h9; omega))) (fun rr157 k158 => ?_)
    obtain ⟨m159, Tm159, Fm159, h160, h161, h162, h163, rfl⟩ := k158
    refine ⟨_, _, rfl, ?_⟩
    refine T_nb (st' := []) rfl ?_
    have g164 : 0 ≤ m159.1 7 ∧ m159.1 7 ≤ 330 := Tm159.1 7
    have g165 : 0 ≤ m159.1 8 ∧ m159.1 8 ≤ 4000 := Tm159.1 8
    have g166 : 0 ≤ m159.1 9 ∧ m159.1 9 ≤ 4000 := Tm159.1 9
    have g167 : 0 ≤ m159.1 10 ∧ m159.1 10 ≤ 8 := Tm159.1 10
    by_cases hf168 : (m159.1 10) = 0
    · skip
      replace h160 : LxP (m159.1 7) (m159.1 8) (m159.1 9) (m.1 6) (m159.1 10) := h160
      have hLx := h160
      replace h161 : (m.1 10) = 0 := h161 hf168
      replace h162 : (m.1 8) ≤ (m159.1 8) := h162
      replace h163 : (m.1 8) + (m.1 9) ≤ (m159.1 8) := h163 hf168
      have u169 : (m.1 8) + 1 ≤ (m159.1 8) := by omega
      have u170 : (m.1 23) ≤ (m.1 23) := by omega
      refine T_gf 8 (.ref 257) rfl rfl rfl rfl rfl rfl ?_
      refine T_ld 9 (.int (i32 d)) rfl (fun _ => rfl) ?_
      refine T_gf 13 (.int (i32 (m.1 28))) rfl rfl rfl rfl (mfv_c (F := fun x => .int (i32 x)) rfl (show (m159.1 28) = (m.1 28) from (fr1 Fm159 28 rfl))) rfl ?_
      have G171 : ∀ j, 0 ≤ (upI (m.2 95) d (m.1 28)) j ∧ (upI (m.2 95) d (m.1 28)) j ≤ 800 := upI_rg (hT.2.1 95) ⟨by omega, by omega⟩
      refine T_iast (a' := [(95, upI (m.2 95) d (m.1 28))]) 14 95 (m.2 95) rfl rfl rfl (by omega) (show d < (16 : Int) by omega) (show (m159.2 95) = (m.2 95) from (fr2 Fm159 95 rfl)) rfl ?_
      refine T_ld 15 (.ref 189) rfl (fun _ => rfl) ?_
      refine T_call 18 244 [.ref 189] [] rfl (fun _ => rfl) rfl (c_readExpr w (mO m159 [] [(95, upI (m.2 95) d (m.1 28))]) c N D (by omega) (Ty_mO Tm159 rfl rfl trivial ⟨G171, trivial⟩) (show LxP (m159.1 7) (m159.1 8) (m159.1 9) (m159.1 6) (m159.1 10) by rewrite [(show (m159.1 6) = (m.1 6) from (fr1 Fm159 6 rfl))]; first | exact hLx | exact (fun _ => hLx (by omega)) | (intro h9; exfalso; omega)) (show ∀ k, (m159.2 14) k + (m159.2 15) k ≤ 4000 by rewrite [(show (m159.2 14) = (m.2 14) from (fr2 Fm159 14 rfl)), (show (m159.2 15) = (m.2 15) from (fr2 Fm159 15 rfl))]; assumption) (show ∀ k, (m159.2 31) k + (m159.2 32) k ≤ 4000 by rewrite [(show (m159.2 31) = (m.2 31) from (fr2 Fm159 31 rfl)), (show (m159.2 32) = (m.2 32) from (fr2 Fm159 32 rfl))]; assumption) (show ∀ k, (m159.2 47) k + (m159.2 48) k ≤ 4000 by rewrite [(show (m159.2 47) = (m.2 47) from (fr2 Fm159 47 rfl)), (show (m159.2 48) = (m.2 48) from (fr2 Fm159 48 rfl))]; assumption) (fun _ => ⟨(show PN (m159.1 13) (m159.1 19) (m159.1 20) (m159.1 21) (m159.1 22) (m159.1 23) (m159.1 25) (m159.1 26) (m159.2 16) (m159.2 17) by rewrite [(show (m159.1 13) = (m.1 13) from (fr1 Fm159 13 rfl)), (show (m159.1 19) = (m.1 19) from (fr1 Fm159 19 rfl)), (show (m159.1 20) = (m.1 20) from (fr1 Fm159 20 rfl)), (show (m159.1 21) = (m.1 21) from (fr1 Fm159 21 rfl)), (show (m159.1 22) = (m.1 22) from (fr1 Fm159 22 rfl)), (show (m159.1 23) = (m.1 23) from (fr1 Fm159 23 rfl)), (show (m159.1 25) = (m.1 25) from (fr1 Fm159 25 rfl)), (show (m159.1 26) = (m.1 26) from (fr1 Fm159 26 rfl)), (show (m159.2 16) = (m.2 16) from (fr2 Fm159 16 rfl)), (show (m159.2 17) = (m.2 17) from (fr2 Fm159 17 rfl))]; assumption), (show CN (m159.2 65) (m159.2 67) (m159.1 28) by rewrite [(show (m159.2 65) = (m.2 65) from (fr2 Fm159 65 rfl)), (show (m159.2 67) = (m.2 67) from (fr2 Fm159 67 rfl)), (show (m159.1 28) = (m.1 28) from (fr1 Fm159 28 rfl))]; assumption)⟩)) (fun rr172 k173 => ?_)
      obtain ⟨m174, Tm174, Fm174, h175, h176, c177, rfl⟩ := k173
      refine ⟨_, _, rfl, ?_⟩
      refine T_nb (st' := []) rfl ?_
      have g178 : 0 ≤ m174.1 7 ∧ m174.1 7 ≤ 330 := Tm174.1 7
      have g179 : 0 ≤ m174.1 8 ∧ m174.1 8 ≤ 4000 := Tm174.1 8
      have g180 : 0 ≤ m174.1 9 ∧ m174.1 9 ≤ 4000 := Tm174.1 9
      have g181 : 0 ≤ m174.1 10 ∧ m174.1 10 ≤ 8 := Tm174.1 10
      have g182 : 0 ≤ m174.1 28 ∧ m174.1 28 ≤ 800 := Tm174.1 28
      have g183 : 0 ≤ m174.1 69 ∧ m174.1 69 ≤ 1024 := Tm174.1 69
      by_cases hf184 : (m174.1 10) = 0
      · skip
        replace h175 : (m159.1 10) = 0 := h175 hf184
        replace h176 : LxP (m174.1 7) (m174.1 8) (m174.1 9) (m159.1 6) (m174.1 10) := h176
        rewrite [(show (m159.1 6) = (m.1 6) from (fr1 Fm159 6 rfl))] at h176
        have hLx := h176
        obtain ⟨c185, c186, c187, c188, c189, c190⟩ := c177 hf184
        replace c185 : (m159.1 8) + 1 ≤ (m174.1 8) := c185
        replace c186 : (m174.1 69) ≤ 64 := c186
        replace c187 : (m159.1 28) ≤ (m174.1 28) := c187
        rewrite [(show (m159.1 28) = (m.1 28) from (fr1 Fm159 28 rfl))] at c187
        replace c188 : okc (m174.2 65) (m159.1 28) (m174.1 28) := c188
        rewrite [(show (m159.1 28) = (m.1 28) from (fr1 Fm159 28 rfl))] at c188
        have hOk := c188
        replace c189 : CN (m174.2 65) (m174.2 67) (m174.1 28) := c189
        have hCN := c189
        replace c190 : agr (m159.2 65) (m174.2 65) (m159.1 28) := c190
        rewrite [(show (m159.2 65) = (m.2 65) from (fr2 Fm159 65 rfl)), (show (m159.1 28) = (m.1 28) from (fr1 Fm159 28 rfl))] at c190
        have hAg := c190
        clear c177
        have u191 : (m.1 8) + 1 ≤ (m174.1 8) := by omega
        have u192 : (m.1 28) ≤ (m174.1 28) := by omega
        have u193 : (m.1 23) ≤ (m.1 23) := by omega
        clear g164 g165 g166 g167 h160 h162 h163 u169 h175 c185
        refine T_gf 22 (.ref 258) rfl rfl rfl rfl rfl rfl ?_
        refine T_ld 23 (.int (i32 d)) rfl (fun _ => rfl) ?_
        refine T_gf 27 (.int (i32 (m174.1 28))) rfl rfl rfl rfl rfl rfl ?_
        have G194 : ∀ j, 0 ≤ (upI (m.2 96) d (m174.1 28)) j ∧ (upI (m.2 96) d (m174.1 28)) j ≤ 800 := upI_rg (hT.2.1 96) ⟨by omega, by omega⟩
        refine T_iast (a' := [(96, upI (m.2 96) d (m174.1 28))]) 28 96 (m.2 96) rfl rfl rfl (by omega) (show d < (16 : Int) by omega) (show (m174.2 96) = (m.2 96) from ((fr2 Fm174 96 rfl).trans (fr2 Fm159 96 rfl))) rfl ?_
        refine T_gf 32 (.ref 213) rfl rfl rfl rfl rfl rfl ?_
        refine T_ld 33 (.int (i32 d)) rfl (fun _ => rfl) ?_
        refine T_gf 37 (.int (i32 (m174.1 69))) rfl rfl rfl rfl rfl rfl ?_
        have G195 : ∀ j, 0 ≤ (upI (m.2 43) d (m174.1 69)) j ∧ (upI (m.2 43) d (m174.1 69)) j ≤ 1024 := upI_rg (hT.2.1 43) ⟨by omega, by omega⟩
        refine T_iast (a' := [(43, upI (m.2 43) d (m174.1 69)), (96, upI (m.2 96) d (m174.1 28))]) 38 43 (m.2 43) rfl rfl rfl (by omega) (show d < (16 : Int) by omega) (show (m174.2 43) = (m.2 43) from ((fr2 Fm174 43 rfl).trans (fr2 Fm159 43 rfl))) rfl ?_
        refine T_ld 39 (.ref 189) rfl (fun _ => rfl) ?_
        refine T_ld 41 (.int (i32 123)) rfl (fun _ => rfl) ?_
        have hB1 := agr_r (m.2 42) d
        have hB5 := agr_r (m.2 45) (8 * d)
        have hCT : ∀ c, 8 * d ≤ c → c < 8 * d + (m.2 42) d → (m.2 45) c < (m.1 23) := fun c c0 c1 => by rw [hc0] at c1; omega
        refine T_call 44 232 [.ref 189, .int (i32 123)] [] rfl (fun _ => rfl) rfl (d_need w (mO m174 [] [(43, upI (m.2 43) d (m174.1 69)), (96, upI (m.2 96) d (m174.1 28))]) c N D (by omega) (Ty_mO Tm174 rfl rfl trivial ⟨G195, G194, trivial⟩) 123 ⟨by decide, by decide⟩ (show 1 ≤ (123 : Int) by omega) (show LxP (m174.1 7) (m174.1 8) (m174.1 9) (m174.1 6) (m174.1 10) by rewrite [(show (m174.1 6) = (m.1 6) from ((fr1 Fm174 6 rfl).trans (fr1 Fm159 6 rfl)))]; first | exact hLx | (intro h9; exfalso; omega) | (intro h9; have h8 := hLx (by omega); omega))) (fun rr196 k197 => ?_)
        obtain ⟨m198, Tm198, Fm198, h199, h200, h201, h202, rfl⟩ := k197
        refine ⟨_, _, rfl, ?_⟩
        refine T_nb (st' := []) rfl ?_
        have g203 : 0 ≤ m198.1 7 ∧ m198.1 7 ≤ 330 := Tm198.1 7
        have g204 : 0 ≤ m198.1 8 ∧ m198.1 8 ≤ 4000 := Tm198.1 8
        have g205 : 0 ≤ m198.1 9 ∧ m198.1 9 ≤ 4000 := Tm198.1 9
        have g206 : 0 ≤ m198.1 10 ∧ m198.1 10 ≤ 8 := Tm198.1 10
        by_cases hf207 : (m198.1 10) = 0
        · skip
          replace h199 : LxP (m198.1 7) (m198.1 8) (m198.1 9) (m174.1 6) (m198.1 10) := h199
          rewrite [(show (m174.1 6) = (m.1 6) from ((fr1 Fm174 6 rfl).trans (fr1 Fm159 6 rfl)))] at h199
          have hLx := h199
          replace h200 : (m174.1 10) = 0 ∧ (m174.1 7) = (123 : Int) := h200 hf207
          replace h201 : (m174.1 8) ≤ (m198.1 8) := h201
          replace h202 : (m174.1 8) + (m174.1 9) ≤ (m198.1 8) := h202 hf207
          have u208 : (m.1 8) + 1 ≤ (m198.1 8) := by omega
          have u209 : (m.1 28) ≤ (m174.1 28) := by omega
          have u210 : (m.1 23) ≤ (m.1 23) := by omega
          clear g178 g179 g180 g181 h176 u191 h200 h201 h202
          have L44_212 : ∀ (n : Nat) (m211 : mR), Ty m211 → fr [7, 8, 9, 10, 11, 12, 13, 23] [14, 15, 16, 17, 37, 38, 42, 45, 97, 98] (mO m198 [] []) m211 → (LxP (m211.1 7) (m211.1 8) (m211.1 9) (m.1 6) (m211.1 10)) → (∀ k, (m211.2 14) k + (m211.2 15) k ≤ 4000) → ((m211.1 10) = 0 → (PN (m211.1 13) (m.1 19) (m.1 20) (m.1 21) (m.1 22) (m211.1 23) (m.1 25) (m.1 26) (m211.2 16) (m211.2 17)) ∧ (SOp (m211.2 38) (m211.1 23) (m.1 24)) ∧ (∀ c, 8 * d ≤ c → c < 8 * d + (m211.2 42) d → (m211.2 45) c < (m211.1 23)) ∧ (agr (m.2 42) (m211.2 42) d) ∧ (agr (m.2 45) (m211.2 45) (8 * d)) ∧ ((m.1 23) ≤ (m211.1 23)) ∧ ((m.1 8) + 1 ≤ (m211.1 8))) → 1000000 * (8 - (m211.1 10)) + (4000 - (m211.1 8)) < (n : Int) → TT w D pm_243 (44, [(0, .ref 189), (1, .int (i32 d))], [], (mhp (mO m211 [] []) c, N), 0, 0) (Q_takeSelect m c N d) := by
            intro n
            induction n with
            | zero =>
              intro m211 Tm211 Fm211 ic213 ic214 c216 hmu
              have q215_7 : 0 ≤ m211.1 7 ∧ m211.1 7 ≤ 330 := Tm211.1 7
              have q215_8 : 0 ≤ m211.1 8 ∧ m211.1 8 ≤ 4000 := Tm211.1 8
              have q215_9 : 0 ≤ m211.1 9 ∧ m211.1 9 ≤ 4000 := Tm211.1 9
              have q215_10 : 0 ≤ m211.1 10 ∧ m211.1 10 ≤ 8 := Tm211.1 10
              have q215_13 : 0 ≤ m211.1 13 ∧ m211.1 13 ≤ 120 := Tm211.1 13
              have q215_23 : 0 ≤ m211.1 23 ∧ m211.1 23 ≤ 16 := Tm211.1 23
              have hLx := ic213
              have hNM := ic214
              have hB1c := hB1
              have hB5c := hB5
              exfalso
              omega
            | succ n ih =>
              intro m211 Tm211 Fm211 ic213 ic214 c216 hmu
              have q215_7 : 0 ≤ m211.1 7 ∧ m211.1 7 ≤ 330 := Tm211.1 7
              have q215_8 : 0 ≤ m211.1 8 ∧ m211.1 8 ≤ 4000 := Tm211.1 8
              have q215_9 : 0 ≤ m211.1 9 ∧ m211.1 9 ≤ 4000 := Tm211.1 9
              have q215_10 : 0 ≤ m211.1 10 ∧ m211.1 10 ≤ 8 := Tm211.1 10
              have q215_13 : 0 ≤ m211.1 13 ∧ m211.1 13 ≤ 120 := Tm211.1 13
              have q215_23 : 0 ≤ m211.1 23 ∧ m211.1 23 ≤ 16 := Tm211.1 23
              have hLx := ic213
              have hNM := ic214
              have ih217 := ih
              by_cases hf218 : (m211.1 10) = 0
              · skip
                obtain ⟨c219, c220, c221, c222, c223, c224, c225⟩ := c216 hf218
                clear c216
                have pPN := c219
                have pSO := c220
                have hCT := c221
                have hB1 := c222
                have hB5 := c223
                have hB1c := hB1
                have hB5c := hB5
                refine T_gf 48 (.int (i32 (m211.1 10))) rfl rfl rfl rfl rfl rfl ?_
                refine T_if 67 51 rfl rfl rfl (r32 (by omega) (by omega)) (fun (h226 : (m211.1 10) ≠ 0) => by exfalso; omega) (fun (h226 : ¬ ((m211.1 10) ≠ 0)) => ?_)
                refine T_gf 55 (.int (i32 (m211.1 7))) rfl rfl rfl rfl rfl rfl ?_
                refine T_ld 56 (.int (i32 2)) rfl (fun _ => rfl) ?_
                refine T_icmp 67 59 rfl rfl rfl (r32 (by omega) (by omega)) ⟨by decide, by decide⟩ (fun (h227 : (m211.1 7) ≠ 2) => ?_) (fun (h227 : ¬ ((m211.1 7) ≠ 2)) => ?_)
                · skip
                  refine T_ld 68 (.ref 189) rfl (fun _ => rfl) ?_
                  refine T_ld 71 (.int (i32 308)) rfl (fun _ => rfl) ?_
                  refine T_call 74 232 [.ref 189, .int (i32 308)] [] rfl (fun _ => rfl) rfl (d_need w (mO m211 [] []) c N D (by omega) Tm211 308 ⟨by decide, by decide⟩ (show 1 ≤ (308 : Int) by omega) (show LxP (m211.1 7) (m211.1 8) (m211.1 9) (m211.1 6) (m211.1 10) by rewrite [(show (m211.1 6) = (m.1 6) from ((fr1 Fm211 6 rfl).trans ((fr1 Fm198 6 rfl).trans ((fr1 Fm174 6 rfl).trans (fr1 Fm159 6 rfl)))))]; first | exact hLx | (intro h9; exfalso; omega) | (intro h9; have h8 := hLx (by omega); omega))) (fun rr228 k229 => ?_)
                  obtain ⟨m230, Tm230, Fm230, h231, h232, h233, h234, rfl⟩ := k229
                  refine ⟨_, _, rfl, ?_⟩
                  refine T_nb (st' := []) rfl ?_
                  have g235 : 0 ≤ m230.1 7 ∧ m230.1 7 ≤ 330 := Tm230.1 7
                  have g236 : 0 ≤ m230.1 8 ∧ m230.1 8 ≤ 4000 := Tm230.1 8
                  have g237 : 0 ≤ m230.1 9 ∧ m230.1 9 ≤ 4000 := Tm230.1 9
                  have g238 : 0 ≤ m230.1 10 ∧ m230.1 10 ≤ 8 := Tm230.1 10
                  by_cases hf239 : (m230.1 10) = 0
                  · skip
                    replace h231 : LxP (m230.1 7) (m230.1 8) (m230.1 9) (m211.1 6) (m230.1 10) := h231
                    rewrite [(show (m211.1 6) = (m.1 6) from ((fr1 Fm211 6 rfl).trans ((fr1 Fm198 6 rfl).trans ((fr1 Fm174 6 rfl).trans (fr1 Fm159 6 rfl)))))] at h231
                    have hLx := h231
                    replace h232 : (m211.1 10) = 0 ∧ (m211.1 7) = (308 : Int) := h232 hf239
                    replace h233 : (m211.1 8) ≤ (m230.1 8) := h233
                    replace h234 : (m211.1 8) + (m211.1 9) ≤ (m230.1 8) := h234 hf239
                    have u240 : (m.1 8) + 1 ≤ (m230.1 8) := by omega
                    have u241 : (m.1 28) ≤ (m174.1 28) := by omega
                    have u242 : (m.1 23) ≤ (m211.1 23) := by omega
                    clear g203 g204 g205 g206 h199 u208 q215_7 q215_9 ic213 h227 h232 h234
                    refine T_ld 75 (.ref 189) rfl (fun _ => rfl) ?_
                    refine T_ld 77 (.int (i32 58)) rfl (fun _ => rfl) ?_
                    refine T_call 80 232 [.ref 189, .int (i32 58)] [] rfl (fun _ => rfl) rfl (d_need w (mO m230 [] []) c N D (by omega) Tm230 58 ⟨by decide, by decide⟩ (show 1 ≤ (58 : Int) by omega) (show LxP (m230.1 7) (m230.1 8) (m230.1 9) (m230.1 6) (m230.1 10) by rewrite [(show (m230.1 6) = (m.1 6) from ((fr1 Fm230 6 rfl).trans ((fr1 Fm211 6 rfl).trans ((fr1 Fm198 6 rfl).trans ((fr1 Fm174 6 rfl).trans (fr1 Fm159 6 rfl))))))]; first | exact hLx | (intro h9; exfalso; omega) | (intro h9; have h8 := hLx (by omega); omega))) (fun rr243 k244 => ?_)
                    obtain ⟨m245, Tm245, Fm245, h246, h247, h248, h249, rfl⟩ := k244
                    refine ⟨_, _, rfl, ?_⟩
                    refine T_nb (st' := []) rfl ?_
                    have g250 : 0 ≤ m245.1 7 ∧ m245.1 7 ≤ 330 := Tm245.1 7
                    have g251 : 0 ≤ m245.1 8 ∧ m245.1 8 ≤ 4000 := Tm245.1 8
                    have g252 : 0 ≤ m245.1 9 ∧ m245.1 9 ≤ 4000 := Tm245.1 9
                    have g253 : 0 ≤ m245.1 10 ∧ m245.1 10 ≤ 8 := Tm245.1 10
                    by_cases hf254 : (m245.1 10) = 0
                    · skip
                      replace h246 : LxP (m245.1 7) (m245.1 8) (m245.1 9) (m230.1 6) (m245.1 10) := h246
                      rewrite [(show (m230.1 6) = (m.1 6) from ((fr1 Fm230 6 rfl).trans ((fr1 Fm211 6 rfl).trans ((fr1 Fm198 6 rfl).trans ((fr1 Fm174 6 rfl).trans (fr1 Fm159 6 rfl))))))] at h246
                      have hLx := h246
                      replace h247 : (m230.1 10) = 0 ∧ (m230.1 7) = (58 : Int) := h247 hf254
                      replace h248 : (m230.1 8) ≤ (m245.1 8) := h248
                      replace h249 : (m230.1 8) + (m230.1 9) ≤ (m245.1 8) := h249 hf254
                      have u255 : (m.1 8) + 1 ≤ (m245.1 8) := by omega
                      have u256 : (m.1 28) ≤ (m174.1 28) := by omega
                      have u257 : (m.1 23) ≤ (m211.1 23) := by omega
                      clear g235 g236 g237 g238 h231 h233 u240 h247 h248 h249
                      refine T_gf 84 (.ref 214) rfl rfl rfl rfl rfl rfl ?_
                      refine T_ld 85 (.int (i32 d)) rfl (fun _ => rfl) ?_
                      refine T_ld 86 (.ref 189) rfl (fun _ => rfl) ?_
                      refine T_call 89 242 [.ref 189] [.int (i32 d), .ref 214] rfl (fun _ => rfl) rfl (c_stateHere w (mO m245 [] []) c N D (by omega) Tm245 (show LxP (m245.1 7) (m245.1 8) (m245.1 9) (m245.1 6) (m245.1 10) by rewrite [(show (m245.1 6) = (m.1 6) from ((fr1 Fm245 6 rfl).trans ((fr1 Fm230 6 rfl).trans ((fr1 Fm211 6 rfl).trans ((fr1 Fm198 6 rfl).trans ((fr1 Fm174 6 rfl).trans (fr1 Fm159 6 rfl)))))))]; first | exact hLx | exact (fun _ => hLx (by omega)) | (intro h9; exfalso; omega)) (show ∀ k, (m245.2 14) k + (m245.2 15) k ≤ 4000 by rewrite [(show (m245.2 14) = (m211.2 14) from ((fr2 Fm245 14 rfl).trans (fr2 Fm230 14 rfl))), (show (m245.2 15) = (m211.2 15) from ((fr2 Fm245 15 rfl).trans (fr2 Fm230 15 rfl)))]; assumption) (fun _ => ⟨(show PN (m245.1 13) (m245.1 19) (m245.1 20) (m245.1 21) (m245.1 22) (m245.1 23) (m245.1 25) (m245.1 26) (m245.2 16) (m245.2 17) by rewrite [(show (m245.1 13) = (m211.1 13) from ((fr1 Fm245 13 rfl).trans (fr1 Fm230 13 rfl))), (show (m245.1 19) = (m.1 19) from ((fr1 Fm245 19 rfl).trans ((fr1 Fm230 19 rfl).trans ((fr1 Fm211 19 rfl).trans ((fr1 Fm198 19 rfl).trans ((fr1 Fm174 19 rfl).trans (fr1 Fm159 19 rfl))))))), (show (m245.1 20) = (m.1 20) from ((fr1 Fm245 20 rfl).trans ((fr1 Fm230 20 rfl).trans ((fr1 Fm211 20 rfl).trans ((fr1 Fm198 20 rfl).trans ((fr1 Fm174 20 rfl).trans (fr1 Fm159 20 rfl))))))), (show (m245.1 21) = (m.1 21) from ((fr1 Fm245 21 rfl).trans ((fr1 Fm230 21 rfl).trans ((fr1 Fm211 21 rfl).trans ((fr1 Fm198 21 rfl).trans ((fr1 Fm174 21 rfl).trans (fr1 Fm159 21 rfl))))))), (show (m245.1 22) = (m.1 22) from ((fr1 Fm245 22 rfl).trans ((fr1 Fm230 22 rfl).trans ((fr1 Fm211 22 rfl).trans ((fr1 Fm198 22 rfl).trans ((fr1 Fm174 22 rfl).trans (fr1 Fm159 22 rfl))))))), (show (m245.1 23) = (m211.1 23) from ((fr1 Fm245 23 rfl).trans (fr1 Fm230 23 rfl))), (show (m245.1 25) = (m.1 25) from ((fr1 Fm245 25 rfl).trans ((fr1 Fm230 25 rfl).trans ((fr1 Fm211 25 rfl).trans ((fr1 Fm198 25 rfl).trans ((fr1 Fm174 25 rfl).trans (fr1 Fm159 25 rfl))))))), (show (m245.1 26) = (m.1 26) from ((fr1 Fm245 26 rfl).trans ((fr1 Fm230 26 rfl).trans ((fr1 Fm211 26 rfl).trans ((fr1 Fm198 26 rfl).trans ((fr1 Fm174 26 rfl).trans (fr1 Fm159 26 rfl))))))), (show (m245.2 16) = (m211.2 16) from ((fr2 Fm245 16 rfl).trans (fr2 Fm230 16 rfl))), (show (m245.2 17) = (m211.2 17) from ((fr2 Fm245 17 rfl).trans (fr2 Fm230 17 rfl)))]; assumption), (show SOp (m245.2 38) (m245.1 23) (m245.1 24) by rewrite [(show (m245.2 38) = (m211.2 38) from ((fr2 Fm245 38 rfl).trans (fr2 Fm230 38 rfl))), (show (m245.1 23) = (m211.1 23) from ((fr1 Fm245 23 rfl).trans (fr1 Fm230 23 rfl))), (show (m245.1 24) = (m.1 24) from ((fr1 Fm245 24 rfl).trans ((fr1 Fm230 24 rfl).trans ((fr1 Fm211 24 rfl).trans ((fr1 Fm198 24 rfl).trans ((fr1 Fm174 24 rfl).trans (fr1 Fm159 24 rfl)))))))]; first | exact pSO | assumption)⟩)) (fun rr258 k259 => ?_)
                      obtain ⟨m260, x261, Tm260, Fm260, g262, h263, h264, h265, c266, rfl⟩ := k259
                      refine ⟨_, _, rfl, ?_⟩
                      refine T_nb (st' := [.int (i32 x261), .int (i32 d), .ref 214]) rfl ?_
                      obtain ⟨g262a, g262b⟩ := g262
                      have g267 : 0 ≤ m260.1 7 ∧ m260.1 7 ≤ 330 := Tm260.1 7
                      have g268 : 0 ≤ m260.1 8 ∧ m260.1 8 ≤ 4000 := Tm260.1 8
                      have g269 : 0 ≤ m260.1 9 ∧ m260.1 9 ≤ 4000 := Tm260.1 9
                      have g270 : 0 ≤ m260.1 10 ∧ m260.1 10 ≤ 8 := Tm260.1 10
                      have g271 : 0 ≤ m260.1 13 ∧ m260.1 13 ≤ 120 := Tm260.1 13
                      have g272 : 0 ≤ m260.1 23 ∧ m260.1 23 ≤ 16 := Tm260.1 23
                      by_cases hf273 : (m260.1 10) = 0
                      · skip
                        replace h263 : (m245.1 10) = 0 := h263 hf273
                        replace h264 : LxP (m260.1 7) (m260.1 8) (m260.1 9) (m245.1 6) (m260.1 10) := h264
                        rewrite [(show (m245.1 6) = (m.1 6) from ((fr1 Fm245 6 rfl).trans ((fr1 Fm230 6 rfl).trans ((fr1 Fm211 6 rfl).trans ((fr1 Fm198 6 rfl).trans ((fr1 Fm174 6 rfl).trans (fr1 Fm159 6 rfl)))))))] at h264
                        have hLx := h264
                        replace h265 : ∀ k, (m260.2 14) k + (m260.2 15) k ≤ 4000 := h265
                        have hNM := h265
                        obtain ⟨c274, c275, c276, c277, c278⟩ := c266 hf273
                        replace c274 : (m245.1 8) + 1 ≤ (m260.1 8) := c274
                        replace c275 : PN (m260.1 13) (m245.1 19) (m245.1 20) (m245.1 21) (m245.1 22) (m260.1 23) (m245.1 25) (m245.1 26) (m260.2 16) (m260.2 17) := c275
                        rewrite [(show (m245.1 19) = (m.1 19) from ((fr1 Fm245 19 rfl).trans ((fr1 Fm230 19 rfl).trans ((fr1 Fm211 19 rfl).trans ((fr1 Fm198 19 rfl).trans ((fr1 Fm174 19 rfl).trans (fr1 Fm159 19 rfl))))))), (show (m245.1 20) = (m.1 20) from ((fr1 Fm245 20 rfl).trans ((fr1 Fm230 20 rfl).trans ((fr1 Fm211 20 rfl).trans ((fr1 Fm198 20 rfl).trans ((fr1 Fm174 20 rfl).trans (fr1 Fm159 20 rfl))))))), (show (m245.1 21) = (m.1 21) from ((fr1 Fm245 21 rfl).trans ((fr1 Fm230 21 rfl).trans ((fr1 Fm211 21 rfl).trans ((fr1 Fm198 21 rfl).trans ((fr1 Fm174 21 rfl).trans (fr1 Fm159 21 rfl))))))), (show (m245.1 22) = (m.1 22) from ((fr1 Fm245 22 rfl).trans ((fr1 Fm230 22 rfl).trans ((fr1 Fm211 22 rfl).trans ((fr1 Fm198 22 rfl).trans ((fr1 Fm174 22 rfl).trans (fr1 Fm159 22 rfl))))))), (show (m245.1 25) = (m.1 25) from ((fr1 Fm245 25 rfl).trans ((fr1 Fm230 25 rfl).trans ((fr1 Fm211 25 rfl).trans ((fr1 Fm198 25 rfl).trans ((fr1 Fm174 25 rfl).trans (fr1 Fm159 25 rfl))))))), (show (m245.1 26) = (m.1 26) from ((fr1 Fm245 26 rfl).trans ((fr1 Fm230 26 rfl).trans ((fr1 Fm211 26 rfl).trans ((fr1 Fm198 26 rfl).trans ((fr1 Fm174 26 rfl).trans (fr1 Fm159 26 rfl)))))))] at c275
                        have pPN := c275
                        replace c276 : SOp (m260.2 38) (m260.1 23) (m245.1 24) := c276
                        rewrite [(show (m245.1 24) = (m.1 24) from ((fr1 Fm245 24 rfl).trans ((fr1 Fm230 24 rfl).trans ((fr1 Fm211 24 rfl).trans ((fr1 Fm198 24 rfl).trans ((fr1 Fm174 24 rfl).trans (fr1 Fm159 24 rfl)))))))] at c276
                        have pSO := c276
                        replace c277 : x261 < (m260.1 23) := c277
                        have hRS := c277
                        replace c278 : (m245.1 23) ≤ (m260.1 23) := c278
                        rewrite [(show (m245.1 23) = (m211.1 23) from ((fr1 Fm245 23 rfl).trans (fr1 Fm230 23 rfl)))] at c278
                        clear c266
                        have u279 : (m.1 8) + 1 ≤ (m260.1 8) := by omega
                        have u280 : (m.1 28) ≤ (m174.1 28) := by omega
                        have u281 : (m.1 23) ≤ (m260.1 23) := by omega
                        clear q215_13 ic214 c219 c220 g250 g251 g252 g253 h246 u255 h263 c274
                        have G282 : ∀ j, (-2) ≤ (upI (m.2 44) d x261) j ∧ (upI (m.2 44) d x261) j ≤ 15 := upI_rg (hT.2.1 44) ⟨by omega, by omega⟩
                        refine T_iast (a' := [(44, upI (m.2 44) d x261)]) 90 44 (m.2 44) rfl rfl rfl (by omega) (show d < (16 : Int) by omega) (show (m260.2 44) = (m.2 44) from ((fr2 Fm260 44 rfl).trans ((fr2 Fm245 44 rfl).trans ((fr2 Fm230 44 rfl).trans ((fr2 Fm211 44 rfl).trans ((fr2 Fm198 44 rfl).trans ((fr2 Fm174 44 rfl).trans (fr2 Fm159 44 rfl)))))))) rfl ?_
                        refine T_ld 91 (.ref 189) rfl (fun _ => rfl) ?_
                        refine T_ld 93 (.int (i32 59)) rfl (fun _ => rfl) ?_
                        refine T_call 96 232 [.ref 189, .int (i32 59)] [] rfl (fun _ => rfl) rfl (d_need w (mO m260 [] [(44, upI (m.2 44) d x261)]) c N D (by omega) (Ty_mO Tm260 rfl rfl trivial ⟨G282, trivial⟩) 59 ⟨by decide, by decide⟩ (show 1 ≤ (59 : Int) by omega) (show LxP (m260.1 7) (m260.1 8) (m260.1 9) (m260.1 6) (m260.1 10) by rewrite [(show (m260.1 6) = (m.1 6) from ((fr1 Fm260 6 rfl).trans ((fr1 Fm245 6 rfl).trans ((fr1 Fm230 6 rfl).trans ((fr1 Fm211 6 rfl).trans ((fr1 Fm198 6 rfl).trans ((fr1 Fm174 6 rfl).trans (fr1 Fm159 6 rfl))))))))]; first | exact hLx | (intro h9; exfalso; omega) | (intro h9; have h8 := hLx (by omega); omega))) (fun rr283 k284 => ?_)
                        obtain ⟨m285, Tm285, Fm285, h286, h287, h288, h289, rfl⟩ := k284
                        refine ⟨_, _, rfl, ?_⟩
                        refine T_nb (st' := []) rfl ?_
                        have g290 : 0 ≤ m285.1 7 ∧ m285.1 7 ≤ 330 := Tm285.1 7
                        have g291 : 0 ≤ m285.1 8 ∧ m285.1 8 ≤ 4000 := Tm285.1 8
                        have g292 : 0 ≤ m285.1 9 ∧ m285.1 9 ≤ 4000 := Tm285.1 9
                        have g293 : 0 ≤ m285.1 10 ∧ m285.1 10 ≤ 8 := Tm285.1 10
                        by_cases hf294 : (m285.1 10) = 0
                        · skip
                          replace h286 : LxP (m285.1 7) (m285.1 8) (m285.1 9) (m260.1 6) (m285.1 10) := h286
                          rewrite [(show (m260.1 6) = (m.1 6) from ((fr1 Fm260 6 rfl).trans ((fr1 Fm245 6 rfl).trans ((fr1 Fm230 6 rfl).trans ((fr1 Fm211 6 rfl).trans ((fr1 Fm198 6 rfl).trans ((fr1 Fm174 6 rfl).trans (fr1 Fm159 6 rfl))))))))] at h286
                          have hLx := h286
                          replace h287 : (m260.1 10) = 0 ∧ (m260.1 7) = (59 : Int) := h287 hf294
                          replace h288 : (m260.1 8) ≤ (m285.1 8) := h288
                          replace h289 : (m260.1 8) + (m260.1 9) ≤ (m285.1 8) := h289 hf294
                          have u295 : (m.1 8) + 1 ≤ (m285.1 8) := by omega
                          have u296 : (m.1 28) ≤ (m174.1 28) := by omega
                          have u297 : (m.1 23) ≤ (m260.1 23) := by omega
                          clear g267 g268 g269 g270 h264 u279 h287 h288 h289
                          refine T_ld 97 (.ref 189) rfl (fun _ => rfl) ?_
                          refine T_ld 99 (.int (i32 125)) rfl (fun _ => rfl) ?_
                          refine T_call 102 232 [.ref 189, .int (i32 125)] [] rfl (fun _ => rfl) rfl (d_need w (mO m285 [] []) c N D (by omega) Tm285 125 ⟨by decide, by decide⟩ (show 1 ≤ (125 : Int) by omega) (show LxP (m285.1 7) (m285.1 8) (m285.1 9) (m285.1 6) (m285.1 10) by rewrite [(show (m285.1 6) = (m.1 6) from ((fr1 Fm285 6 rfl).trans ((fr1 Fm260 6 rfl).trans ((fr1 Fm245 6 rfl).trans ((fr1 Fm230 6 rfl).trans ((fr1 Fm211 6 rfl).trans ((fr1 Fm198 6 rfl).trans ((fr1 Fm174 6 rfl).trans (fr1 Fm159 6 rfl)))))))))]; first | exact hLx | (intro h9; exfalso; omega) | (intro h9; have h8 := hLx (by omega); omega))) (fun rr298 k299 => ?_)
                          obtain ⟨m300, Tm300, Fm300, h301, h302, h303, h304, rfl⟩ := k299
                          refine ⟨_, _, rfl, ?_⟩
                          refine T_nb (st' := []) rfl ?_
                          have g305 : 0 ≤ m300.1 7 ∧ m300.1 7 ≤ 330 := Tm300.1 7
                          have g306 : 0 ≤ m300.1 8 ∧ m300.1 8 ≤ 4000 := Tm300.1 8
                          have g307 : 0 ≤ m300.1 9 ∧ m300.1 9 ≤ 4000 := Tm300.1 9
                          have g308 : 0 ≤ m300.1 10 ∧ m300.1 10 ≤ 8 := Tm300.1 10
                          by_cases hf309 : (m300.1 10) = 0
                          · skip
                            replace h301 : LxP (m300.1 7) (m300.1 8) (m300.1 9) (m285.1 6) (m300.1 10) := h301
                            rewrite [(show (m285.1 6) = (m.1 6) from ((fr1 Fm285 6 rfl).trans ((fr1 Fm260 6 rfl).trans ((fr1 Fm245 6 rfl).trans ((fr1 Fm230 6 rfl).trans ((fr1 Fm211 6 rfl).trans ((fr1 Fm198 6 rfl).trans ((fr1 Fm174 6 rfl).trans (fr1 Fm159 6 rfl)))))))))] at h301
                            have hLx := h301
                            replace h302 : (m285.1 10) = 0 ∧ (m285.1 7) = (125 : Int) := h302 hf309
                            replace h303 : (m285.1 8) ≤ (m300.1 8) := h303
                            replace h304 : (m285.1 8) + (m285.1 9) ≤ (m300.1 8) := h304 hf309
                            have u310 : (m.1 8) + 1 ≤ (m300.1 8) := by omega
                            have u311 : (m.1 28) ≤ (m174.1 28) := by omega
                            have u312 : (m.1 23) ≤ (m260.1 23) := by omega
                            clear g290 g291 g292 g293 h286 u295 h302 h303 h304
                            refine T_ret rfl (fun _ => rfl) ?_
                            exact ⟨(mO m300 [] []), Tm300, (fr_m (fr_s Fm300 (fr_m (fr_s Fm285 (fr_m (fr_s Fm260 (fr_m (fr_s Fm245 (fr_m (fr_s Fm230 (fr_m (fr_s Fm211 (fr_m (fr_s Fm198 (fr_m (fr_s Fm174 (fr_m (fr_s Fm159 (fr_m fr_0 rfl rfl) rfl rfl) rfl rfl) rfl rfl) rfl rfl) rfl rfl) rfl rfl) rfl rfl) rfl rfl) rfl rfl) rfl rfl) rfl rfl) rfl rfl) rfl rfl) rfl rfl) rfl rfl) rfl rfl) rfl rfl) rfl rfl), (show (m300.1 10) = 0 → (m.1 10) = 0 by omega), (show LxP (m300.1 7) (m300.1 8) (m300.1 9) (m.1 6) (m300.1 10) by first | (first | exact hLx | exact (fun _ => hLx (by omega)) | (intro h9; exfalso; omega)) | (exfalso; omega)), (show ∀ k, (m300.2 14) k + (m300.2 15) k ≤ 4000 by rewrite [(show (m300.2 14) = (m260.2 14) from ((fr2 Fm300 14 rfl).trans (fr2 Fm285 14 rfl))), (show (m300.2 15) = (m260.2 15) from ((fr2 Fm300 15 rfl).trans (fr2 Fm285 15 rfl)))]; first | (first | exact hNM | (intro k; rw [hE1, hE2]; have := hNM k; have h7 := hLx0 hf0; unfold upI; split <;> omega)) | (exfalso; omega)), (fun _ => ⟨(show (m.1 8) + 1 ≤ (m300.1 8) by omega), (show PN (m300.1 13) (m.1 19) (m.1 20) (m.1 21) (m.1 22) (m300.1 23) (m.1 25) (m.1 26) (m300.2 16) (m300.2 17) by rewrite [(show (m300.1 13) = (m260.1 13) from ((fr1 Fm300 13 rfl).trans (fr1 Fm285 13 rfl))), (show (m300.1 23) = (m260.1 23) from ((fr1 Fm300 23 rfl).trans (fr1 Fm285 23 rfl))), (show (m300.2 16) = (m260.2 16) from ((fr2 Fm300 16 rfl).trans (fr2 Fm285 16 rfl))), (show (m300.2 17) = (m260.2 17) from ((fr2 Fm300 17 rfl).trans (fr2 Fm285 17 rfl)))]; first | (exact pPN) | (exfalso; omega)), (show CN (m300.2 65) (m300.2 67) (m300.1 28) by rewrite [(show (m300.2 65) = (m174.2 65) from ((fr2 Fm300 65 rfl).trans ((fr2 Fm285 65 rfl).trans ((fr2 Fm260 65 rfl).trans ((fr2 Fm245 65 rfl).trans ((fr2 Fm230 65 rfl).trans ((fr2 Fm211 65 rfl).trans (fr2 Fm198 65 rfl)))))))), (show (m300.2 67) = (m174.2 67) from ((fr2 Fm300 67 rfl).trans ((fr2 Fm285 67 rfl).trans ((fr2 Fm260 67 rfl).trans ((fr2 Fm245 67 rfl).trans ((fr2 Fm230 67 rfl).trans ((fr2 Fm211 67 rfl).trans (fr2 Fm198 67 rfl)))))))), (show (m300.1 28) = (m174.1 28) from ((fr1 Fm300 28 rfl).trans ((fr1 Fm285 28 rfl).trans ((fr1 Fm260 28 rfl).trans ((fr1 Fm245 28 rfl).trans ((fr1 Fm230 28 rfl).trans ((fr1 Fm211 28 rfl).trans (fr1 Fm198 28 rfl))))))))]; first | (exact hCN) | (exfalso; omega)), (show SOp (m300.2 38) (m300.1 23) (m.1 24) by rewrite [(show (m300.2 38) = (m260.2 38) from ((fr2 Fm300 38 rfl).trans (fr2 Fm285 38 rfl))), (show (m300.1 23) = (m260.1 23) from ((fr1 Fm300 23 rfl).trans (fr1 Fm285 23 rfl)))]; first | (exact pSO) | (exfalso; omega)), (show (m.1 23) ≤ (m300.1 23) by rewrite [(show (m300.1 23) = (m260.1 23) from ((fr1 Fm300 23 rfl).trans (fr1 Fm285 23 rfl)))]; omega), (show (m.1 28) ≤ (m300.1 28) by rewrite [(show (m300.1 28) = (m174.1 28) from ((fr1 Fm300 28 rfl).trans ((fr1 Fm285 28 rfl).trans ((fr1 Fm260 28 rfl).trans ((fr1 Fm245 28 rfl).trans ((fr1 Fm230 28 rfl).trans ((fr1 Fm211 28 rfl).trans (fr1 Fm198 28 rfl))))))))]; omega), (show agr (m.2 65) (m300.2 65) (m.1 28) by rewrite [(show (m300.2 65) = (m174.2 65) from ((fr2 Fm300 65 rfl).trans ((fr2 Fm285 65 rfl).trans ((fr2 Fm260 65 rfl).trans ((fr2 Fm245 65 rfl).trans ((fr2 Fm230 65 rfl).trans ((fr2 Fm211 65 rfl).trans (fr2 Fm198 65 rfl))))))))]; first | (exact hAg) | (exfalso; omega)), (show agr (m.2 42) (m300.2 42) d by rewrite [(show (m300.2 42) = (m211.2 42) from ((fr2 Fm300 42 rfl).trans ((fr2 Fm285 42 rfl).trans ((fr2 Fm260 42 rfl).trans ((fr2 Fm245 42 rfl).trans (fr2 Fm230 42 rfl))))))]; first | (exact hB1) | (exfalso; omega)), (show agr (m.2 95) (m300.2 95) d by rewrite [(show (m300.2 95) = (upI (m.2 95) d (m.1 28)) from ((fr2 Fm300 95 rfl).trans ((fr2 Fm285 95 rfl).trans ((fr2 Fm260 95 rfl).trans ((fr2 Fm245 95 rfl).trans ((fr2 Fm230 95 rfl).trans ((fr2 Fm211 95 rfl).trans ((fr2 Fm198 95 rfl).trans (fr2 Fm174 95 rfl)))))))))]; first | (exact agr_u (Int.le_refl _)) | (exfalso; omega)), (show agr (m.2 96) (m300.2 96) d by rewrite [(show (m300.2 96) = (upI (m.2 96) d (m174.1 28)) from ((fr2 Fm300 96 rfl).trans ((fr2 Fm285 96 rfl).trans ((fr2 Fm260 96 rfl).trans ((fr2 Fm245 96 rfl).trans ((fr2 Fm230 96 rfl).trans ((fr2 Fm211 96 rfl).trans (fr2 Fm198 96 rfl))))))))]; first | (exact agr_u (Int.le_refl _)) | (exfalso; omega)), (show agr (m.2 44) (m300.2 44) d by rewrite [(show (m300.2 44) = (upI (m.2 44) d x261) from ((fr2 Fm300 44 rfl).trans (fr2 Fm285 44 rfl)))]; first | (exact agr_u (Int.le_refl _)) | (exfalso; omega)), (show agr (m.2 45) (m300.2 45) (8 * d) by rewrite [(show (m300.2 45) = (m211.2 45) from ((fr2 Fm300 45 rfl).trans ((fr2 Fm285 45 rfl).trans ((fr2 Fm260 45 rfl).trans ((fr2 Fm245 45 rfl).trans (fr2 Fm230 45 rfl))))))]; first | (exact hB5) | (exfalso; omega)), (show StR (m300.2 65) (m300.1 28) (m300.1 23) d (m300.2 42) (m300.2 95) (m300.2 96) (m300.2 44) (m300.2 45) by rewrite [(show (m300.2 65) = (m174.2 65) from ((fr2 Fm300 65 rfl).trans ((fr2 Fm285 65 rfl).trans ((fr2 Fm260 65 rfl).trans ((fr2 Fm245 65 rfl).trans ((fr2 Fm230 65 rfl).trans ((fr2 Fm211 65 rfl).trans (fr2 Fm198 65 rfl)))))))), (show (m300.1 28) = (m174.1 28) from ((fr1 Fm300 28 rfl).trans ((fr1 Fm285 28 rfl).trans ((fr1 Fm260 28 rfl).trans ((fr1 Fm245 28 rfl).trans ((fr1 Fm230 28 rfl).trans ((fr1 Fm211 28 rfl).trans (fr1 Fm198 28 rfl)))))))), (show (m300.1 23) = (m260.1 23) from ((fr1 Fm300 23 rfl).trans (fr1 Fm285 23 rfl))), (show (m300.2 42) = (m211.2 42) from ((fr2 Fm300 42 rfl).trans ((fr2 Fm285 42 rfl).trans ((fr2 Fm260 42 rfl).trans ((fr2 Fm245 42 rfl).trans (fr2 Fm230 42 rfl)))))), (show (m300.2 95) = (upI (m.2 95) d (m.1 28)) from ((fr2 Fm300 95 rfl).trans ((fr2 Fm285 95 rfl).trans ((fr2 Fm260 95 rfl).trans ((fr2 Fm245 95 rfl).trans ((fr2 Fm230 95 rfl).trans ((fr2 Fm211 95 rfl).trans ((fr2 Fm198 95 rfl).trans (fr2 Fm174 95 rfl))))))))), (show (m300.2 96) = (upI (m.2 96) d (m174.1 28)) from ((fr2 Fm300 96 rfl).trans ((fr2 Fm285 96 rfl).trans ((fr2 Fm260 96 rfl).trans ((fr2 Fm245 96 rfl).trans ((fr2 Fm230 96 rfl).trans ((fr2 Fm211 96 rfl).trans (fr2 Fm198 96 rfl)))))))), (show (m300.2 44) = (upI (m.2 44) d x261) from ((fr2 Fm300 44 rfl).trans (fr2 Fm285 44 rfl))), (show (m300.2 45) = (m211.2 45) from ((fr2 Fm300 45 rfl).trans ((fr2 Fm285 45 rfl).trans ((fr2 Fm260 45 rfl).trans ((fr2 Fm245 45 rfl).trans (fr2 Fm230 45 rfl))))))]; first | (exact ⟨fun _ => by rw [upI_s, upI_s]; exact ⟨hOk, by omega⟩, by rw [upI_s]; omega, fun c c0 c1 => by have := hCT c c0 c1; omega⟩) | (exfalso; omega))⟩), rfl⟩
                          · skip
                            replace h301 : LxP (m300.1 7) (m300.1 8) (m300.1 9) (m285.1 6) (m300.1 10) := h301
                            rewrite [(show (m285.1 6) = (m.1 6) from ((fr1 Fm285 6 rfl).trans ((fr1 Fm260 6 rfl).trans ((fr1 Fm245 6 rfl).trans ((fr1 Fm230 6 rfl).trans ((fr1 Fm211 6 rfl).trans ((fr1 Fm198 6 rfl).trans ((fr1 Fm174 6 rfl).trans (fr1 Fm159 6 rfl)))))))))] at h301
                            have hLx := h301
                            clear h302
                            replace h303 : (m285.1 8) ≤ (m300.1 8) := h303
                            clear h304
                            have hf313 : 1 ≤ (m300.1 10) := by omega
                            clear g290 g291 g292 g293 h286 u295 h303
                            exact J102_13 (mO m300 [] []) Tm300 (fr_m (fr_s Fm300 (fr_m (fr_s Fm285 (fr_m (fr_s Fm260 (fr_m (fr_s Fm245 (fr_m (fr_s Fm230 (fr_m (fr_s Fm211 (fr_m (fr_s Fm198 (fr_m (fr_s Fm174 (fr_m (fr_s Fm159 (fr_m fr_0 rfl rfl) rfl rfl) rfl rfl) rfl rfl) rfl rfl) rfl rfl) rfl rfl) rfl rfl) rfl rfl) rfl rfl) rfl rfl) rfl rfl) rfl rfl) rfl rfl) rfl rfl) rfl rfl) rfl rfl) rfl rfl) rfl rfl) (show ∀ k, (m300.2 14) k + (m300.2 15) k ≤ 4000 by rewrite [(show (m300.2 14) = (m260.2 14) from ((fr2 Fm300 14 rfl).trans (fr2 Fm285 14 rfl))), (show (m300.2 15) = (m260.2 15) from ((fr2 Fm300 15 rfl).trans (fr2 Fm285 15 rfl)))]; first | exact hNM) (show 1 ≤ (m300.1 10) by omega)
                        · skip
                          replace h286 : LxP (m285.1 7) (m285.1 8) (m285.1 9) (m260.1 6) (m285.1 10) := h286
                          rewrite [(show (m260.1 6) = (m.1 6) from ((fr1 Fm260 6 rfl).trans ((fr1 Fm245 6 rfl).trans ((fr1 Fm230 6 rfl).trans ((fr1 Fm211 6 rfl).trans ((fr1 Fm198 6 rfl).trans ((fr1 Fm174 6 rfl).trans (fr1 Fm159 6 rfl))))))))] at h286
                          have hLx := h286
                          clear h287
                          replace h288 : (m260.1 8) ≤ (m285.1 8) := h288
                          clear h289
                          have hf314 : 1 ≤ (m285.1 10) := by omega
                          clear g267 g268 g269 g270 h264 u279 h288
                          exact J96_19 (mO m285 [] []) Tm285 (fr_m (fr_s Fm285 (fr_m (fr_s Fm260 (fr_m (fr_s Fm245 (fr_m (fr_s Fm230 (fr_m (fr_s Fm211 (fr_m (fr_s Fm198 (fr_m (fr_s Fm174 (fr_m (fr_s Fm159 (fr_m fr_0 rfl rfl) rfl rfl) rfl rfl) rfl rfl) rfl rfl) rfl rfl) rfl rfl) rfl rfl) rfl rfl) rfl rfl) rfl rfl) rfl rfl) rfl rfl) rfl rfl) rfl rfl) rfl rfl) rfl rfl) (show ∀ k, (m285.2 14) k + (m285.2 15) k ≤ 4000 by rewrite [(show (m285.2 14) = (m260.2 14) from (fr2 Fm285 14 rfl)), (show (m285.2 15) = (m260.2 15) from (fr2 Fm285 15 rfl))]; first | exact hNM) (show 1 ≤ (m285.1 10) by omega)
                      · skip
                        clear c266
                        clear h263
                        replace h264 : LxP (m260.1 7) (m260.1 8) (m260.1 9) (m245.1 6) (m260.1 10) := h264
                        rewrite [(show (m245.1 6) = (m.1 6) from ((fr1 Fm245 6 rfl).trans ((fr1 Fm230 6 rfl).trans ((fr1 Fm211 6 rfl).trans ((fr1 Fm198 6 rfl).trans ((fr1 Fm174 6 rfl).trans (fr1 Fm159 6 rfl)))))))] at h264
                        have hLx := h264
                        replace h265 : ∀ k, (m260.2 14) k + (m260.2 15) k ≤ 4000 := h265
                        have hNM := h265
                        have hf315 : 1 ≤ (m260.1 10) := by omega
                        clear q215_13 ic214 c219 c220 g250 g251 g252 g253 h246 u255
                        exact J89_38 x261 (mO m260 [] []) (r32 (by omega) (by omega)) Tm260 (fr_m (fr_s Fm260 (fr_m (fr_s Fm245 (fr_m (fr_s Fm230 (fr_m (fr_s Fm211 (fr_m (fr_s Fm198 (fr_m (fr_s Fm174 (fr_m (fr_s Fm159 (fr_m fr_0 rfl rfl) rfl rfl) rfl rfl) rfl rfl) rfl rfl) rfl rfl) rfl rfl) rfl rfl) rfl rfl) rfl rfl) rfl rfl) rfl rfl) rfl rfl) rfl rfl) rfl rfl) (show (-2) ≤ x261 by omega) (show x261 ≤ 15 by omega) (show ∀ k, (m260.2 14) k + (m260.2 15) k ≤ 4000 by first | exact hNM) (show 1 ≤ (m260.1 10) by omega)
                    · skip
                      replace h246 : LxP (m245.1 7) (m245.1 8) (m245.1 9) (m230.1 6) (m245.1 10) := h246
                      rewrite [(show (m230.1 6) = (m.1 6) from ((fr1 Fm230 6 rfl).trans ((fr1 Fm211 6 rfl).trans ((fr1 Fm198 6 rfl).trans ((fr1 Fm174 6 rfl).trans (fr1 Fm159 6 rfl))))))] at h246
                      have hLx := h246
                      clear h247
                      replace h248 : (m230.1 8) ≤ (m245.1 8) := h248
                      clear h249
                      have hf316 : 1 ≤ (m245.1 10) := by omega
                      clear g235 g236 g237 g238 h231 h233 u240 h248
                      exact J80_60 (mO m245 [] []) Tm245 (fr_m (fr_s Fm245 (fr_m (fr_s Fm230 (fr_m (fr_s Fm211 (fr_m (fr_s Fm198 (fr_m (fr_s Fm174 (fr_m (fr_s Fm159 (fr_m fr_0 rfl rfl) rfl rfl) rfl rfl) rfl rfl) rfl rfl) rfl rfl) rfl rfl) rfl rfl) rfl rfl) rfl rfl) rfl rfl) rfl rfl) rfl rfl) (show ∀ k, (m245.2 14) k + (m245.2 15) k ≤ 4000 by rewrite [(show (m245.2 14) = (m211.2 14) from ((fr2 Fm245 14 rfl).trans (fr2 Fm230 14 rfl))), (show (m245.2 15) = (m211.2 15) from ((fr2 Fm245 15 rfl).trans (fr2 Fm230 15 rfl)))]; first | exact hNM) (show 1 ≤ (m245.1 10) by omega)
                  · skip
                    replace h231 : LxP (m230.1 7) (m230.1 8) (m230.1 9) (m211.1 6) (m230.1 10) := h231
                    rewrite [(show (m211.1 6) = (m.1 6) from ((fr1 Fm211 6 rfl).trans ((fr1 Fm198 6 rfl).trans ((fr1 Fm174 6 rfl).trans (fr1 Fm159 6 rfl)))))] at h231
                    have hLx := h231
                    clear h232
                    replace h233 : (m211.1 8) ≤ (m230.1 8) := h233
                    clear h234
                    have hf317 : 1 ≤ (m230.1 10) := by omega
                    clear g203 g204 g205 g206 h199 u208 q215_7 q215_9 ic213 h227
                    exact J74_82 (mO m230 [] []) Tm230 (fr_m (fr_s Fm230 (fr_m (fr_s Fm211 (fr_m (fr_s Fm198 (fr_m (fr_s Fm174 (fr_m (fr_s Fm159 (fr_m fr_0 rfl rfl) rfl rfl) rfl rfl) rfl rfl) rfl rfl) rfl rfl) rfl rfl) rfl rfl) rfl rfl) rfl rfl) rfl rfl) (show ∀ k, (m230.2 14) k + (m230.2 15) k ≤ 4000 by rewrite [(show (m230.2 14) = (m211.2 14) from (fr2 Fm230 14 rfl)), (show (m230.2 15) = (m211.2 15) from (fr2 Fm230 15 rfl))]; first | exact hNM) (show 1 ≤ (m230.1 10) by omega)
                · skip
                  refine T_ld 60 (.ref 189) rfl (fun _ => rfl) ?_
                  refine T_ld 61 (.int (i32 d)) rfl (fun _ => rfl) ?_
                  refine T_call 64 265 [.ref 189, .int (i32 d)] [] rfl (fun _ => rfl) rfl (c_takeCase w (mO m211 [] []) c N D (by omega) Tm211 d (r32 (by omega) (by omega)) (show LxP (m211.1 7) (m211.1 8) (m211.1 9) (m211.1 6) (m211.1 10) by rewrite [(show (m211.1 6) = (m.1 6) from ((fr1 Fm211 6 rfl).trans ((fr1 Fm198 6 rfl).trans ((fr1 Fm174 6 rfl).trans (fr1 Fm159 6 rfl)))))]; first | exact hLx | exact (fun _ => hLx (by omega)) | (intro h9; exfalso; omega)) (show ∀ k, (m211.2 14) k + (m211.2 15) k ≤ 4000 by assumption) (show 0 ≤ d ∧ d ≤ 15 by omega) (fun _ => ⟨(show PN (m211.1 13) (m211.1 19) (m211.1 20) (m211.1 21) (m211.1 22) (m211.1 23) (m211.1 25) (m211.1 26) (m211.2 16) (m211.2 17) by rewrite [(show (m211.1 19) = (m.1 19) from ((fr1 Fm211 19 rfl).trans ((fr1 Fm198 19 rfl).trans ((fr1 Fm174 19 rfl).trans (fr1 Fm159 19 rfl))))), (show (m211.1 20) = (m.1 20) from ((fr1 Fm211 20 rfl).trans ((fr1 Fm198 20 rfl).trans ((fr1 Fm174 20 rfl).trans (fr1 Fm159 20 rfl))))), (show (m211.1 21) = (m.1 21) from ((fr1 Fm211 21 rfl).trans ((fr1 Fm198 21 rfl).trans ((fr1 Fm174 21 rfl).trans (fr1 Fm159 21 rfl))))), (show (m211.1 22) = (m.1 22) from ((fr1 Fm211 22 rfl).trans ((fr1 Fm198 22 rfl).trans ((fr1 Fm174 22 rfl).trans (fr1 Fm159 22 rfl))))), (show (m211.1 25) = (m.1 25) from ((fr1 Fm211 25 rfl).trans ((fr1 Fm198 25 rfl).trans ((fr1 Fm174 25 rfl).trans (fr1 Fm159 25 rfl))))), (show (m211.1 26) = (m.1 26) from ((fr1 Fm211 26 rfl).trans ((fr1 Fm198 26 rfl).trans ((fr1 Fm174 26 rfl).trans (fr1 Fm159 26 rfl)))))]; assumption), (show SOp (m211.2 38) (m211.1 23) (m211.1 24) by rewrite [(show (m211.1 24) = (m.1 24) from ((fr1 Fm211 24 rfl).trans ((fr1 Fm198 24 rfl).trans ((fr1 Fm174 24 rfl).trans (fr1 Fm159 24 rfl)))))]; first | exact pSO | assumption), (show ∀ c, 8 * d ≤ c → c < 8 * d + (m211.2 42) d → (m211.2 45) c < (m211.1 23) by assumption)⟩)) (fun rr318 k319 => ?_)
                  obtain ⟨m320, Tm320, Fm320, h321, h322, h323, c324, rfl⟩ := k319
                  refine ⟨_, _, rfl, ?_⟩
                  refine T_nb (st' := []) rfl ?_
                  have g325 : 0 ≤ m320.1 7 ∧ m320.1 7 ≤ 330 := Tm320.1 7
                  have g326 : 0 ≤ m320.1 8 ∧ m320.1 8 ≤ 4000 := Tm320.1 8
                  have g327 : 0 ≤ m320.1 9 ∧ m320.1 9 ≤ 4000 := Tm320.1 9
                  have g328 : 0 ≤ m320.1 10 ∧ m320.1 10 ≤ 8 := Tm320.1 10
                  have g329 : 0 ≤ m320.1 13 ∧ m320.1 13 ≤ 120 := Tm320.1 13
                  have g330 : 0 ≤ m320.1 23 ∧ m320.1 23 ≤ 16 := Tm320.1 23
                  by_cases hf331 : (m320.1 10) = 0
                  · skip
                    replace h321 : (m211.1 10) = 0 := h321 hf331
                    replace h322 : LxP (m320.1 7) (m320.1 8) (m320.1 9) (m211.1 6) (m320.1 10) := h322
                    rewrite [(show (m211.1 6) = (m.1 6) from ((fr1 Fm211 6 rfl).trans ((fr1 Fm198 6 rfl).trans ((fr1 Fm174 6 rfl).trans (fr1 Fm159 6 rfl)))))] at h322
                    have hLx := h322
                    replace h323 : ∀ k, (m320.2 14) k + (m320.2 15) k ≤ 4000 := h323
                    have hNM := h323
                    obtain ⟨c332, c333, c334, c335, c336, c337, c338⟩ := c324 hf331
                    replace c332 : (m211.1 8) + 1 ≤ (m320.1 8) := c332
                    replace c333 : PN (m320.1 13) (m211.1 19) (m211.1 20) (m211.1 21) (m211.1 22) (m320.1 23) (m211.1 25) (m211.1 26) (m320.2 16) (m320.2 17) := c333
                    rewrite [(show (m211.1 19) = (m.1 19) from ((fr1 Fm211 19 rfl).trans ((fr1 Fm198 19 rfl).trans ((fr1 Fm174 19 rfl).trans (fr1 Fm159 19 rfl))))), (show (m211.1 20) = (m.1 20) from ((fr1 Fm211 20 rfl).trans ((fr1 Fm198 20 rfl).trans ((fr1 Fm174 20 rfl).trans (fr1 Fm159 20 rfl))))), (show (m211.1 21) = (m.1 21) from ((fr1 Fm211 21 rfl).trans ((fr1 Fm198 21 rfl).trans ((fr1 Fm174 21 rfl).trans (fr1 Fm159 21 rfl))))), (show (m211.1 22) = (m.1 22) from ((fr1 Fm211 22 rfl).trans ((fr1 Fm198 22 rfl).trans ((fr1 Fm174 22 rfl).trans (fr1 Fm159 22 rfl))))), (show (m211.1 25) = (m.1 25) from ((fr1 Fm211 25 rfl).trans ((fr1 Fm198 25 rfl).trans ((fr1 Fm174 25 rfl).trans (fr1 Fm159 25 rfl))))), (show (m211.1 26) = (m.1 26) from ((fr1 Fm211 26 rfl).trans ((fr1 Fm198 26 rfl).trans ((fr1 Fm174 26 rfl).trans (fr1 Fm159 26 rfl)))))] at c333
                    have pPN := c333
                    replace c334 : SOp (m320.2 38) (m320.1 23) (m211.1 24) := c334
                    rewrite [(show (m211.1 24) = (m.1 24) from ((fr1 Fm211 24 rfl).trans ((fr1 Fm198 24 rfl).trans ((fr1 Fm174 24 rfl).trans (fr1 Fm159 24 rfl)))))] at c334
                    have pSO := c334
                    replace c335 : ∀ c, 8 * d ≤ c → c < 8 * d + (m320.2 42) d → (m320.2 45) c < (m320.1 23) := c335
                    have hCT := c335
                    replace c336 : (m211.1 23) ≤ (m320.1 23) := c336
                    replace c337 : agr (m211.2 42) (m320.2 42) d := c337
                    have hB1 := c337
                    replace c338 : agr (m211.2 45) (m320.2 45) (8 * d) := c338
                    have hB5 := c338
                    clear c324
                    have u339 : (m.1 8) + 1 ≤ (m320.1 8) := by omega
                    have u340 : (m.1 28) ≤ (m174.1 28) := by omega
                    have u341 : (m.1 23) ≤ (m320.1 23) := by omega
                    clear g203 g204 g205 g206 h199 u208 q215_7 q215_9 q215_13 ic213 ic214 c219 c220 c221 c222 c223 h227 c337 c338
                    refine T_goto 44 rfl (fun _ => rfl) ?_
                    exact ih217 (mO m320 [] []) Tm320 (fr_m (fr_s Fm320 (fr_m (fr_s Fm211 (fr_m fr_0 rfl rfl) rfl rfl) rfl rfl) rfl rfl) rfl rfl) (show LxP (m320.1 7) (m320.1 8) (m320.1 9) (m.1 6) (m320.1 10) by exact hLx) (show ∀ k, (m320.2 14) k + (m320.2 15) k ≤ 4000 by exact hNM) (fun _ => ⟨(show PN (m320.1 13) (m.1 19) (m.1 20) (m.1 21) (m.1 22) (m320.1 23) (m.1 25) (m.1 26) (m320.2 16) (m320.2 17) by exact pPN), (show SOp (m320.2 38) (m320.1 23) (m.1 24) by exact pSO), (show ∀ c, 8 * d ≤ c → c < 8 * d + (m320.2 42) d → (m320.2 45) c < (m320.1 23) by exact hCT), (show agr (m.2 42) (m320.2 42) d by first | exact agr_t hB1c hB1 (Int.le_refl _) | exact hB1), (show agr (m.2 45) (m320.2 45) (8 * d) by first | exact agr_t hB5c hB5 (Int.le_refl _) | exact hB5), (show (m.1 23) ≤ (m320.1 23) by omega), (show (m.1 8) + 1 ≤ (m320.1 8) by omega)⟩) (show 1000000 * (8 - (m320.1 10)) + (4000 - (m320.1 8)) < (n : Int) by omega)
                  · skip
                    clear c324
                    clear h321
                    replace h322 : LxP (m320.1 7) (m320.1 8) (m320.1 9) (m211.1 6) (m320.1 10) := h322
                    rewrite [(show (m211.1 6) = (m.1 6) from ((fr1 Fm211 6 rfl).trans ((fr1 Fm198 6 rfl).trans ((fr1 Fm174 6 rfl).trans (fr1 Fm159 6 rfl)))))] at h322
                    have hLx := h322
                    replace h323 : ∀ k, (m320.2 14) k + (m320.2 15) k ≤ 4000 := h323
                    have hNM := h323
                    have hf342 : 1 ≤ (m320.1 10) := by omega
                    clear g203 g204 g205 g206 h199 u208 q215_7 q215_9 q215_13 ic213 ic214 c219 c220 c221 c222 c223 h227
                    exact J64_100 (mO m320 [] []) Tm320 (fr_m (fr_s Fm320 (fr_m (fr_s Fm211 (fr_m (fr_s Fm198 (fr_m (fr_s Fm174 (fr_m (fr_s Fm159 (fr_m fr_0 rfl rfl) rfl rfl) rfl rfl) rfl rfl) rfl rfl) rfl rfl) rfl rfl) rfl rfl) rfl rfl) rfl rfl) rfl rfl) (show ∀ k, (m320.2 14) k + (m320.2 15) k ≤ 4000 by first | exact hNM) (show 1 ≤ (m320.1 10) by omega)
              · skip
                clear c216
                have hf343 : 1 ≤ (m211.1 10) := by omega
                refine T_gf 48 (.int (i32 (m211.1 10))) rfl rfl rfl rfl rfl rfl ?_
                refine T_if 67 51 rfl rfl rfl (r32 (by omega) (by omega)) (fun (h344 : (m211.1 10) ≠ 0) => ?_) (fun (h344 : ¬ ((m211.1 10) ≠ 0)) => by exfalso; omega)
                refine T_ld 68 (.ref 189) rfl (fun _ => rfl) ?_
                refine T_ld 71 (.int (i32 308)) rfl (fun _ => rfl) ?_
                refine T_call 74 232 [.ref 189, .int (i32 308)] [] rfl (fun _ => rfl) rfl (d_need w (mO m211 [] []) c N D (by omega) Tm211 308 ⟨by decide, by decide⟩ (show 1 ≤ (308 : Int) by omega) (show LxP (m211.1 7) (m211.1 8) (m211.1 9) (m211.1 6) (m211.1 10) by rewrite [(show (m211.1 6) = (m.1 6) from ((fr1 Fm211 6 rfl).trans ((fr1 Fm198 6 rfl).trans ((fr1 Fm174 6 rfl).trans (fr1 Fm159 6 rfl)))))]; first | exact hLx | (intro h9; exfalso; omega) | (intro h9; have h8 := hLx (by omega); omega))) (fun rr345 k346 => ?_)
                obtain ⟨m347, Tm347, Fm347, h348, h349, h350, h351, rfl⟩ := k346
                refine ⟨_, _, rfl, ?_⟩
                refine T_nb (st' := []) rfl ?_
                have g352 : 0 ≤ m347.1 7 ∧ m347.1 7 ≤ 330 := Tm347.1 7
                have g353 : 0 ≤ m347.1 8 ∧ m347.1 8 ≤ 4000 := Tm347.1 8
                have g354 : 0 ≤ m347.1 9 ∧ m347.1 9 ≤ 4000 := Tm347.1 9
                have g355 : 0 ≤ m347.1 10 ∧ m347.1 10 ≤ 8 := Tm347.1 10
                replace h348 : LxP (m347.1 7) (m347.1 8) (m347.1 9) (m211.1 6) (m347.1 10) := h348
                rewrite [(show (m211.1 6) = (m.1 6) from ((fr1 Fm211 6 rfl).trans ((fr1 Fm198 6 rfl).trans ((fr1 Fm174 6 rfl).trans (fr1 Fm159 6 rfl)))))] at h348
                replace h349 : (m347.1 10) = 0 → (m211.1 10) = 0 ∧ (m211.1 7) = (308 : Int) := h349
                replace h350 : (m211.1 8) ≤ (m347.1 8) := h350
                replace h351 : (m347.1 10) = 0 → (m211.1 8) + (m211.1 9) ≤ (m347.1 8) := h351
                have hf356 : 1 ≤ (m347.1 10) := by omega
                clear h349
                clear h351
                have hLx := h348
                clear g203 g204 g205 g206 h199 u208 q215_7 q215_9 ic213
                exact J74_82 (mO m347 [] []) Tm347 (fr_m (fr_s Fm347 (fr_m (fr_s Fm211 (fr_m (fr_s Fm198 (fr_m (fr_s Fm174 (fr_m (fr_s Fm159 (fr_m fr_0 rfl rfl) rfl rfl) rfl rfl) rfl rfl) rfl rfl) rfl rfl) rfl rfl) rfl rfl) rfl rfl) rfl rfl) rfl rfl) (show ∀ k, (m347.2 14) k + (m347.2 15) k ≤ 4000 by rewrite [(show (m347.2 14) = (m211.2 14) from (fr2 Fm347 14 rfl)), (show (m347.2 15) = (m211.2 15) from (fr2 Fm347 15 rfl))]; first | exact hNM) (show 1 ≤ (m347.1 10) by omega)
          exact L44_212 ((1000000 * (8 - (m198.1 10)) + (4000 - (m198.1 8)) : Int) + 1).toNat (mO m198 [] []) Tm198 (fr_m fr_0 rfl rfl) (show LxP (m198.1 7) (m198.1 8) (m198.1 9) (m.1 6) (m198.1 10) by exact hLx) (show ∀ k, (m198.2 14) k + (m198.2 15) k ≤ 4000 by rewrite [(show (m198.2 14) = (m.2 14) from ((fr2 Fm198 14 rfl).trans ((fr2 Fm174 14 rfl).trans (fr2 Fm159 14 rfl)))), (show (m198.2 15) = (m.2 15) from ((fr2 Fm198 15 rfl).trans ((fr2 Fm174 15 rfl).trans (fr2 Fm159 15 rfl))))]; exact hNM) (fun _ => ⟨(show PN (m198.1 13) (m.1 19) (m.1 20) (m.1 21) (m.1 22) (m198.1 23) (m.1 25) (m.1 26) (m198.2 16) (m198.2 17) by rewrite [(show (m198.1 13) = (m.1 13) from ((fr1 Fm198 13 rfl).trans ((fr1 Fm174 13 rfl).trans (fr1 Fm159 13 rfl)))), (show (m198.1 23) = (m.1 23) from ((fr1 Fm198 23 rfl).trans ((fr1 Fm174 23 rfl).trans (fr1 Fm159 23 rfl)))), (show (m198.2 16) = (m.2 16) from ((fr2 Fm198 16 rfl).trans ((fr2 Fm174 16 rfl).trans (fr2 Fm159 16 rfl)))), (show (m198.2 17) = (m.2 17) from ((fr2 Fm198 17 rfl).trans ((fr2 Fm174 17 rfl).trans (fr2 Fm159 17 rfl))))]; exact pPN), (show SOp (m198.2 38) (m198.1 23) (m.1 24) by rewrite [(show (m198.2 38) = (m.2 38) from ((fr2 Fm198 38 rfl).trans ((fr2 Fm174 38 rfl).trans (fr2 Fm159 38 rfl)))), (show (m198.1 23) = (m.1 23) from ((fr1 Fm198 23 rfl).trans ((fr1 Fm174 23 rfl).trans (fr1 Fm159 23 rfl))))]; exact pSO), (show ∀ c, 8 * d ≤ c → c < 8 * d + (m198.2 42) d → (m198.2 45) c < (m198.1 23) by rewrite [(show (m198.2 42) = (m.2 42) from ((fr2 Fm198 42 rfl).trans ((fr2 Fm174 42 rfl).trans (fr2 Fm159 42 rfl)))), (show (m198.2 45) = (m.2 45) from ((fr2 Fm198 45 rfl).trans ((fr2 Fm174 45 rfl).trans (fr2 Fm159 45 rfl)))), (show (m198.1 23) = (m.1 23) from ((fr1 Fm198 23 rfl).trans ((fr1 Fm174 23 rfl).trans (fr1 Fm159 23 rfl))))]; exact hCT), (show agr (m.2 42) (m198.2 42) d by rewrite [(show (m198.2 42) = (m.2 42) from ((fr2 Fm198 42 rfl).trans ((fr2 Fm174 42 rfl).trans (fr2 Fm159 42 rfl))))]; first | exact agr_t hB1c hB1 (Int.le_refl _) | exact hB1), (show agr (m.2 45) (m198.2 45) (8 * d) by rewrite [(show (m198.2 45) = (m.2 45) from ((fr2 Fm198 45 rfl).trans ((fr2 Fm174 45 rfl).trans (fr2 Fm159 45 rfl))))]; first | exact agr_t hB5c hB5 (Int.le_refl _) | exact hB5), (show (m.1 23) ≤ (m198.1 23) by rewrite [(show (m198.1 23) = (m.1 23) from ((fr1 Fm198 23 rfl).trans ((fr1 Fm174 23 rfl).trans (fr1 Fm159 23 rfl))))]; omega), (show (m.1 8) + 1 ≤ (m198.1 8) by omega)⟩) (show 1000000 * (8 - (m198.1 10)) + (4000 - (m198.1 8)) < ((((1000000 * (8 - (m198.1 10)) + (4000 - (m198.1 8)) : Int) + 1).toNat : Nat) : Int) by omega)
        · skip
          replace h199 : LxP (m198.1 7) (m198.1 8) (m198.1 9) (m174.1 6) (m198.1 10) := h199
          rewrite [(show (m174.1 6) = (m.1 6) from ((fr1 Fm174 6 rfl).trans (fr1 Fm159 6 rfl)))] at h199
          have hLx := h199
          clear h200
          replace h201 : (m174.1 8) ≤ (m198.1 8) := h201
          clear h202
          have hf357 : 1 ≤ (m198.1 10) := by omega
          clear g178 g179 g180 g181 h176 u191 h201
          exact J44_119 (mO m198 [] []) Tm198 (fr_m (fr_s Fm198 (fr_m (fr_s Fm174 (fr_m (fr_s Fm159 (fr_m fr_0 rfl rfl) rfl rfl) rfl rfl) rfl rfl) rfl rfl) rfl rfl) rfl rfl) (show ∀ k, (m.2 14) k + (m.2 15) k ≤ 4000 by first | exact hNM) (show 1 ≤ (m198.1 10) by omega)
      · skip
        clear c177
        clear h175
        replace h176 : LxP (m174.1 7) (m174.1 8) (m174.1 9) (m159.1 6) (m174.1 10) := h176
        rewrite [(show (m159.1 6) = (m.1 6) from (fr1 Fm159 6 rfl))] at h176
        have hLx := h176
        have hf358 : 1 ≤ (m174.1 10) := by omega
        clear g164 g165 g166 g167 h160 h162 h163 u169
        exact J18_138 (mO m174 [] []) Tm174 (fr_m (fr_s Fm174 (fr_m (fr_s Fm159 (fr_m fr_0 rfl rfl) rfl rfl) rfl rfl) rfl rfl) rfl rfl) (show ∀ k, (m.2 14) k + (m.2 15) k ≤ 4000 by first | exact hNM) (show 1 ≤ (m174.1 10) by omega)
    · skip
      replace h160 : LxP (m159.1 7) (m159.1 8) (m159.1 9) (m.1 6) (m159.1 10) := h160
      have hLx := h160
      clear h161
      replace h162 : (m.1 8) ≤ (m159.1 8) := h162
      clear h163
      have hf359 : 1 ≤ (m159.1 10) := by omega
      refine T_gf 8 (.ref 257) rfl rfl rfl rfl rfl rfl ?_
      refine T_ld 9 (.int (i32 d)) rfl (fun _ => rfl) ?_
      refine T_gf 13 (.int (i32 (m.1 28))) rfl rfl rfl rfl (mfv_c (F := fun x => .int (i32 x)) rfl (show (m159.1 28) = (m.1 28) from (fr1 Fm159 28 rfl))) rfl ?_
      have G360 : ∀ j, 0 ≤ (upI (m.2 95) d (m.1 28)) j ∧ (upI (m.2 95) d (m.1 28)) j ≤ 800 := upI_rg (hT.2.1 95) ⟨by omega, by omega⟩
      refine T_iast (a' := [(95, upI (m.2 95) d (m.1 28))]) 14 95 (m.2 95) rfl rfl rfl (by omega) (show d < (16 : Int) by omega) (show (m159.2 95) = (m.2 95) from (fr2 Fm159 95 rfl)) rfl ?_
      refine T_ld 15 (.ref 189) rfl (fun _ => rfl) ?_
      refine T_call 18 244 [.ref 189] [] rfl (fun _ => rfl) rfl (c_readExpr w (mO m159 [] [(95, upI (m.2 95) d (m.1 28))]) c N D (by omega) (Ty_mO Tm159 rfl rfl trivial ⟨G360, trivial⟩) (show LxP (m159.1 7) (m159.1 8) (m159.1 9) (m159.1 6) (m159.1 10) by rewrite [(show (m159.1 6) = (m.1 6) from (fr1 Fm159 6 rfl))]; first | exact hLx | exact (fun _ => hLx (by omega)) | (intro h9; exfalso; omega)) (show ∀ k, (m159.2 14) k + (m159.2 15) k ≤ 4000 by rewrite [(show (m159.2 14) = (m.2 14) from (fr2 Fm159 14 rfl)), (show (m159.2 15) = (m.2 15) from (fr2 Fm159 15 rfl))]; assumption) (show ∀ k, (m159.2 31) k + (m159.2 32) k ≤ 4000 by rewrite [(show (m159.2 31) = (m.2 31) from (fr2 Fm159 31 rfl)), (show (m159.2 32) = (m.2 32) from (fr2 Fm159 32 rfl))]; assumption) (show ∀ k, (m159.2 47) k + (m159.2 48) k ≤ 4000 by rewrite [(show (m159.2 47) = (m.2 47) from (fr2 Fm159 47 rfl)), (show (m159.2 48) = (m.2 48) from (fr2 Fm159 48 rfl))]; assumption) (fun (h : (m159.1 10) = 0) => absurd h (by omega))) (fun rr361 k362 => ?_)
      obtain ⟨m363, Tm363, Fm363, h364, h365, c366, rfl⟩ := k362
      refine ⟨_, _, rfl, ?_⟩
      refine T_nb (st' := []) rfl ?_
      have g367 : 0 ≤ m363.1 7 ∧ m363.1 7 ≤ 330 := Tm363.1 7
      have g368 : 0 ≤ m363.1 8 ∧ m363.1 8 ≤ 4000 := Tm363.1 8
      have g369 : 0 ≤ m363.1 9 ∧ m363.1 9 ≤ 4000 := Tm363.1 9
      have g370 : 0 ≤ m363.1 10 ∧ m363.1 10 ≤ 8 := Tm363.1 10
      have g371 : 0 ≤ m363.1 28 ∧ m363.1 28 ≤ 800 := Tm363.1 28
      have g372 : 0 ≤ m363.1 69 ∧ m363.1 69 ≤ 1024 := Tm363.1 69
      replace h364 : (m363.1 10) = 0 → (m159.1 10) = 0 := h364
      replace h365 : LxP (m363.1 7) (m363.1 8) (m363.1 9) (m159.1 6) (m363.1 10) := h365
      rewrite [(show (m159.1 6) = (m.1 6) from (fr1 Fm159 6 rfl))] at h365
      have hf373 : 1 ≤ (m363.1 10) := by omega
      clear c366
      clear h364
      have hLx := h365
      clear g164 g165 g166 g167 h160 h162 hf359
      exact J18_138 (mO m363 [] []) Tm363 (fr_m (fr_s Fm363 (fr_m (fr_s Fm159 (fr_m fr_0 rfl rfl) rfl rfl) rfl rfl) rfl rfl) rfl rfl) (show ∀ k, (m.2 14) k + (m.2 15) k ≤ 4000 by first | exact hNM) (show 1 ≤ (m363.1 10) by omega)
  · skip
    clear hC
    refine T_ld 1 (.ref 189) rfl (fun _ => rfl) ?_
    refine T_call 4 212 [.ref 189] [] rfl (fun _ => rfl) rfl (d_next w (mO m [] []) c N D (by omega) hT (show (m.1 10) = 0 → (m.1 8) + (m.1 9) ≤ (m.1 6) by first | omega | (intro h9; have h8 := hLx h9; omega))) (fun rr374 k375 => ?_)
    obtain ⟨m376, Tm376, Fm376, h377, h378, h379, h380, rfl⟩ := k375
    refine ⟨_, _, rfl, ?_⟩
    refine T_nb (st' := []) rfl ?_
    have g381 : 0 ≤ m376.1 7 ∧ m376.1 7 ≤ 330 := Tm376.1 7
    have g382 : 0 ≤ m376.1 8 ∧ m376.1 8 ≤ 4000 := Tm376.1 8
    have g383 : 0 ≤ m376.1 9 ∧ m376.1 9 ≤ 4000 := Tm376.1 9
    have g384 : 0 ≤ m376.1 10 ∧ m376.1 10 ≤ 8 := Tm376.1 10
    replace h377 : LxP (m376.1 7) (m376.1 8) (m376.1 9) (m.1 6) (m376.1 10) := h377
    replace h378 : (m376.1 10) = 0 → (m.1 10) = 0 := h378
    replace h379 : (m.1 8) ≤ (m376.1 8) := h379
    replace h380 : (m376.1 10) = 0 → (m.1 8) + (m.1 9) ≤ (m376.1 8) := h380
    have hf385 : 1 ≤ (m376.1 10) := by omega
    clear h378
    clear h380
    have hLx := h377
    refine T_gf 8 (.ref 257) rfl rfl rfl rfl rfl rfl ?_
    refine T_ld 9 (.int (i32 d)) rfl (fun _ => rfl) ?_
    refine T_gf 13 (.int (i32 (m.1 28))) rfl rfl rfl rfl (mfv_c (F := fun x => .int (i32 x)) rfl (show (m376.1 28) = (m.1 28) from (fr1 Fm376 28 rfl))) rfl ?_
    have G386 : ∀ j, 0 ≤ (upI (m.2 95) d (m.1 28)) j ∧ (upI (m.2 95) d (m.1 28)) j ≤ 800 := upI_rg (hT.2.1 95) ⟨by omega, by omega⟩
    refine T_iast (a' := [(95, upI (m.2 95) d (m.1 28))]) 14 95 (m.2 95) rfl rfl rfl (by omega) (show d < (16 : Int) by omega) (show (m376.2 95) = (m.2 95) from (fr2 Fm376 95 rfl)) rfl ?_
    refine T_ld 15 (.ref 189) rfl (fun _ => rfl) ?_
    refine T_call 18 244 [.ref 189] [] rfl (fun _ => rfl) rfl (c_readExpr w (mO m376 [] [(95, upI (m.2 95) d (m.1 28))]) c N D (by omega) (Ty_mO Tm376 rfl rfl trivial ⟨G386, trivial⟩) (show LxP (m376.1 7) (m376.1 8) (m376.1 9) (m376.1 6) (m376.1 10) by rewrite [(show (m376.1 6) = (m.1 6) from (fr1 Fm376 6 rfl))]; first | exact hLx | exact (fun _ => hLx (by omega)) | (intro h9; exfalso; omega)) (show ∀ k, (m376.2 14) k + (m376.2 15) k ≤ 4000 by rewrite [(show (m376.2 14) = (m.2 14) from (fr2 Fm376 14 rfl)), (show (m376.2 15) = (m.2 15) from (fr2 Fm376 15 rfl))]; assumption) (show ∀ k, (m376.2 31) k + (m376.2 32) k ≤ 4000 by rewrite [(show (m376.2 31) = (m.2 31) from (fr2 Fm376 31 rfl)), (show (m376.2 32) = (m.2 32) from (fr2 Fm376 32 rfl))]; assumption) (show ∀ k, (m376.2 47) k + (m376.2 48) k ≤ 4000 by rewrite [(show (m376.2 47) = (m.2 47) from (fr2 Fm376 47 rfl)), (show (m376.2 48) = (m.2 48) from (fr2 Fm376 48 rfl))]; assumption) (fun (h : (m376.1 10) = 0) => absurd h (by omega))) (fun rr387 k388 => ?_)
    obtain ⟨m389, Tm389, Fm389, h390, h391, c392, rfl⟩ := k388
    refine ⟨_, _, rfl, ?_⟩
    refine T_nb (st' := []) rfl ?_
    have g393 : 0 ≤ m389.1 7 ∧ m389.1 7 ≤ 330 := Tm389.1 7
    have g394 : 0 ≤ m389.1 8 ∧ m389.1 8 ≤ 4000 := Tm389.1 8
    have g395 : 0 ≤ m389.1 9 ∧ m389.1 9 ≤ 4000 := Tm389.1 9
    have g396 : 0 ≤ m389.1 10 ∧ m389.1 10 ≤ 8 := Tm389.1 10
    have g397 : 0 ≤ m389.1 28 ∧ m389.1 28 ≤ 800 := Tm389.1 28
    have g398 : 0 ≤ m389.1 69 ∧ m389.1 69 ≤ 1024 := Tm389.1 69
    replace h390 : (m389.1 10) = 0 → (m376.1 10) = 0 := h390
    replace h391 : LxP (m389.1 7) (m389.1 8) (m389.1 9) (m376.1 6) (m389.1 10) := h391
    rewrite [(show (m376.1 6) = (m.1 6) from (fr1 Fm376 6 rfl))] at h391
    have hf399 : 1 ≤ (m389.1 10) := by omega
    clear c392
    clear h390
    have hLx := h391
    clear g381 g382 g383 g384 hf385 h377 h379
    refine T_gf 22 (.ref 258) rfl rfl rfl rfl rfl rfl ?_
    refine T_ld 23 (.int (i32 d)) rfl (fun _ => rfl) ?_
    refine T_gf 27 (.int (i32 (m389.1 28))) rfl rfl rfl rfl rfl rfl ?_
    have G400 : ∀ j, 0 ≤ (upI (m.2 96) d (m389.1 28)) j ∧ (upI (m.2 96) d (m389.1 28)) j ≤ 800 := upI_rg (hT.2.1 96) ⟨by omega, by omega⟩
    refine T_iast (a' := [(96, upI (m.2 96) d (m389.1 28))]) 28 96 (m.2 96) rfl rfl rfl (by omega) (show d < (16 : Int) by omega) (show (m389.2 96) = (m.2 96) from ((fr2 Fm389 96 rfl).trans (fr2 Fm376 96 rfl))) rfl ?_
    refine T_gf 32 (.ref 213) rfl rfl rfl rfl rfl rfl ?_
    refine T_ld 33 (.int (i32 d)) rfl (fun _ => rfl) ?_
    refine T_gf 37 (.int (i32 (m389.1 69))) rfl rfl rfl rfl rfl rfl ?_
    have G401 : ∀ j, 0 ≤ (upI (m.2 43) d (m389.1 69)) j ∧ (upI (m.2 43) d (m389.1 69)) j ≤ 1024 := upI_rg (hT.2.1 43) ⟨by omega, by omega⟩
    refine T_iast (a' := [(43, upI (m.2 43) d (m389.1 69)), (96, upI (m.2 96) d (m389.1 28))]) 38 43 (m.2 43) rfl rfl rfl (by omega) (show d < (16 : Int) by omega) (show (m389.2 43) = (m.2 43) from ((fr2 Fm389 43 rfl).trans (fr2 Fm376 43 rfl))) rfl ?_
    refine T_ld 39 (.ref 189) rfl (fun _ => rfl) ?_
    refine T_ld 41 (.int (i32 123)) rfl (fun _ => rfl) ?_
    refine T_call 44 232 [.ref 189, .int (i32 123)] [] rfl (fun _ => rfl) rfl (d_need w (mO m389 [] [(43, upI (m.2 43) d (m389.1 69)), (96, upI (m.2 96) d (m389.1 28))]) c N D (by omega) (Ty_mO Tm389 rfl rfl trivial ⟨G401, G400, trivial⟩) 123 ⟨by decide, by decide⟩ (show 1 ≤ (123 : Int) by omega) (show LxP (m389.1 7) (m389.1 8) (m389.1 9) (m389.1 6) (m389.1 10) by rewrite [(show (m389.1 6) = (m.1 6) from ((fr1 Fm389 6 rfl).trans (fr1 Fm376 6 rfl)))]; first | exact hLx | (intro h9; exfalso; omega) | (intro h9; have h8 := hLx (by omega); omega))) (fun rr402 k403 => ?_)
    obtain ⟨m404, Tm404, Fm404, h405, h406, h407, h408, rfl⟩ := k403
    refine ⟨_, _, rfl, ?_⟩
    refine T_nb (st' := []) rfl ?_
    have g409 : 0 ≤ m404.1 7 ∧ m404.1 7 ≤ 330 := Tm404.1 7
    have g410 : 0 ≤ m404.1 8 ∧ m404.1 8 ≤ 4000 := Tm404.1 8
    have g411 : 0 ≤ m404.1 9 ∧ m404.1 9 ≤ 4000 := Tm404.1 9
    have g412 : 0 ≤ m404.1 10 ∧ m404.1 10 ≤ 8 := Tm404.1 10
    replace h405 : LxP (m404.1 7) (m404.1 8) (m404.1 9) (m389.1 6) (m404.1 10) := h405
    rewrite [(show (m389.1 6) = (m.1 6) from ((fr1 Fm389 6 rfl).trans (fr1 Fm376 6 rfl)))] at h405
    replace h406 : (m404.1 10) = 0 → (m389.1 10) = 0 ∧ (m389.1 7) = (123 : Int) := h406
    replace h407 : (m389.1 8) ≤ (m404.1 8) := h407
    replace h408 : (m404.1 10) = 0 → (m389.1 8) + (m389.1 9) ≤ (m404.1 8) := h408
    have hf413 : 1 ≤ (m404.1 10) := by omega
    clear h406
    clear h408
    have hLx := h405
    clear g393 g394 g395 g396 hf399 h391 h407
    refine T_gf 48 (.int (i32 (m404.1 10))) rfl rfl rfl rfl rfl rfl ?_
    refine T_if 67 51 rfl rfl rfl (r32 (by omega) (by omega)) (fun (h414 : (m404.1 10) ≠ 0) => ?_) (fun (h414 : ¬ ((m404.1 10) ≠ 0)) => by exfalso; omega)
    refine T_ld 68 (.ref 189) rfl (fun _ => rfl) ?_
    refine T_ld 71 (.int (i32 308)) rfl (fun _ => rfl) ?_
    refine T_call 74 232 [.ref 189, .int (i32 308)] [] rfl (fun _ => rfl) rfl (d_need w (mO m404 [] []) c N D (by omega) Tm404 308 ⟨by decide, by decide⟩ (show 1 ≤ (308 : Int) by omega) (show LxP (m404.1 7) (m404.1 8) (m404.1 9) (m404.1 6) (m404.1 10) by rewrite [(show (m404.1 6) = (m.1 6) from ((fr1 Fm404 6 rfl).trans ((fr1 Fm389 6 rfl).trans (fr1 Fm376 6 rfl))))]; first | exact hLx | (intro h9; exfalso; omega) | (intro h9; have h8 := hLx (by omega); omega))) (fun rr415 k416 => ?_)
    obtain ⟨m417, Tm417, Fm417, h418, h419, h420, h421, rfl⟩ := k416
    refine ⟨_, _, rfl, ?_⟩
    refine T_nb (st' := []) rfl ?_
    have g422 : 0 ≤ m417.1 7 ∧ m417.1 7 ≤ 330 := Tm417.1 7
    have g423 : 0 ≤ m417.1 8 ∧ m417.1 8 ≤ 4000 := Tm417.1 8
    have g424 : 0 ≤ m417.1 9 ∧ m417.1 9 ≤ 4000 := Tm417.1 9
    have g425 : 0 ≤ m417.1 10 ∧ m417.1 10 ≤ 8 := Tm417.1 10
    replace h418 : LxP (m417.1 7) (m417.1 8) (m417.1 9) (m404.1 6) (m417.1 10) := h418
    rewrite [(show (m404.1 6) = (m.1 6) from ((fr1 Fm404 6 rfl).trans ((fr1 Fm389 6 rfl).trans (fr1 Fm376 6 rfl))))] at h418
    replace h419 : (m417.1 10) = 0 → (m404.1 10) = 0 ∧ (m404.1 7) = (308 : Int) := h419
    replace h420 : (m404.1 8) ≤ (m417.1 8) := h420
    replace h421 : (m417.1 10) = 0 → (m404.1 8) + (m404.1 9) ≤ (m417.1 8) := h421
    have hf426 : 1 ≤ (m417.1 10) := by omega
    clear h419
    clear h421
    have hLx := h418
    clear g409 g410 g411 g412 hf413 h405 h414 h420
    refine T_ld 75 (.ref 189) rfl (fun _ => rfl) ?_
    refine T_ld 77 (.int (i32 58)) rfl (fun _ => rfl) ?_
    refine T_call 80 232 [.ref 189, .int (i32 58)] [] rfl (fun _ => rfl) rfl (d_need w (mO m417 [] []) c N D (by omega) Tm417 58 ⟨by decide, by decide⟩ (show 1 ≤ (58 : Int) by omega) (show LxP (m417.1 7) (m417.1 8) (m417.1 9) (m417.1 6) (m417.1 10) by rewrite [(show (m417.1 6) = (m.1 6) from ((fr1 Fm417 6 rfl).trans ((fr1 Fm404 6 rfl).trans ((fr1 Fm389 6 rfl).trans (fr1 Fm376 6 rfl)))))]; first | exact hLx | (intro h9; exfalso; omega) | (intro h9; have h8 := hLx (by omega); omega))) (fun rr427 k428 => ?_)
    obtain ⟨m429, Tm429, Fm429, h430, h431, h432, h433, rfl⟩ := k428
    refine ⟨_, _, rfl, ?_⟩
    refine T_nb (st' := []) rfl ?_
    have g434 : 0 ≤ m429.1 7 ∧ m429.1 7 ≤ 330 := Tm429.1 7
    have g435 : 0 ≤ m429.1 8 ∧ m429.1 8 ≤ 4000 := Tm429.1 8
    have g436 : 0 ≤ m429.1 9 ∧ m429.1 9 ≤ 4000 := Tm429.1 9
    have g437 : 0 ≤ m429.1 10 ∧ m429.1 10 ≤ 8 := Tm429.1 10
    replace h430 : LxP (m429.1 7) (m429.1 8) (m429.1 9) (m417.1 6) (m429.1 10) := h430
    rewrite [(show (m417.1 6) = (m.1 6) from ((fr1 Fm417 6 rfl).trans ((fr1 Fm404 6 rfl).trans ((fr1 Fm389 6 rfl).trans (fr1 Fm376 6 rfl)))))] at h430
    replace h431 : (m429.1 10) = 0 → (m417.1 10) = 0 ∧ (m417.1 7) = (58 : Int) := h431
    replace h432 : (m417.1 8) ≤ (m429.1 8) := h432
    replace h433 : (m429.1 10) = 0 → (m417.1 8) + (m417.1 9) ≤ (m429.1 8) := h433
    have hf438 : 1 ≤ (m429.1 10) := by omega
    clear h431
    clear h433
    have hLx := h430
    clear g422 g423 g424 g425 hf426 h418 h432
    refine T_gf 84 (.ref 214) rfl rfl rfl rfl rfl rfl ?_
    refine T_ld 85 (.int (i32 d)) rfl (fun _ => rfl) ?_
    refine T_ld 86 (.ref 189) rfl (fun _ => rfl) ?_
    refine T_call 89 242 [.ref 189] [.int (i32 d), .ref 214] rfl (fun _ => rfl) rfl (c_stateHere w (mO m429 [] []) c N D (by omega) Tm429 (show LxP (m429.1 7) (m429.1 8) (m429.1 9) (m429.1 6) (m429.1 10) by rewrite [(show (m429.1 6) = (m.1 6) from ((fr1 Fm429 6 rfl).trans ((fr1 Fm417 6 rfl).trans ((fr1 Fm404 6 rfl).trans ((fr1 Fm389 6 rfl).trans (fr1 Fm376 6 rfl))))))]; first | exact hLx | exact (fun _ => hLx (by omega)) | (intro h9; exfalso; omega)) (show ∀ k, (m429.2 14) k + (m429.2 15) k ≤ 4000 by rewrite [(show (m429.2 14) = (m.2 14) from ((fr2 Fm429 14 rfl).trans ((fr2 Fm417 14 rfl).trans ((fr2 Fm404 14 rfl).trans ((fr2 Fm389 14 rfl).trans (fr2 Fm376 14 rfl)))))), (show (m429.2 15) = (m.2 15) from ((fr2 Fm429 15 rfl).trans ((fr2 Fm417 15 rfl).trans ((fr2 Fm404 15 rfl).trans ((fr2 Fm389 15 rfl).trans (fr2 Fm376 15 rfl))))))]; assumption) (fun (h : (m429.1 10) = 0) => absurd h (by omega))) (fun rr439 k440 => ?_)
    obtain ⟨m441, x442, Tm441, Fm441, g443, h444, h445, h446, c447, rfl⟩ := k440
    refine ⟨_, _, rfl, ?_⟩
    refine T_nb (st' := [.int (i32 x442), .int (i32 d), .ref 214]) rfl ?_
    obtain ⟨g443a, g443b⟩ := g443
    have g448 : 0 ≤ m441.1 7 ∧ m441.1 7 ≤ 330 := Tm441.1 7
    have g449 : 0 ≤ m441.1 8 ∧ m441.1 8 ≤ 4000 := Tm441.1 8
    have g450 : 0 ≤ m441.1 9 ∧ m441.1 9 ≤ 4000 := Tm441.1 9
    have g451 : 0 ≤ m441.1 10 ∧ m441.1 10 ≤ 8 := Tm441.1 10
    have g452 : 0 ≤ m441.1 13 ∧ m441.1 13 ≤ 120 := Tm441.1 13
    have g453 : 0 ≤ m441.1 23 ∧ m441.1 23 ≤ 16 := Tm441.1 23
    replace h444 : (m441.1 10) = 0 → (m429.1 10) = 0 := h444
    replace h445 : LxP (m441.1 7) (m441.1 8) (m441.1 9) (m429.1 6) (m441.1 10) := h445
    rewrite [(show (m429.1 6) = (m.1 6) from ((fr1 Fm429 6 rfl).trans ((fr1 Fm417 6 rfl).trans ((fr1 Fm404 6 rfl).trans ((fr1 Fm389 6 rfl).trans (fr1 Fm376 6 rfl))))))] at h445
    replace h446 : ∀ k, (m441.2 14) k + (m441.2 15) k ≤ 4000 := h446
    have hf454 : 1 ≤ (m441.1 10) := by omega
    clear c447
    clear h444
    have hLx := h445
    have hNM := h446
    clear g434 g435 g436 g437 hf438 h430
    have G455 : ∀ j, (-2) ≤ (upI (m.2 44) d x442) j ∧ (upI (m.2 44) d x442) j ≤ 15 := upI_rg (hT.2.1 44) ⟨by omega, by omega⟩
    refine T_iast (a' := [(44, upI (m.2 44) d x442)]) 90 44 (m.2 44) rfl rfl rfl (by omega) (show d < (16 : Int) by omega) (show (m441.2 44) = (m.2 44) from ((fr2 Fm441 44 rfl).trans ((fr2 Fm429 44 rfl).trans ((fr2 Fm417 44 rfl).trans ((fr2 Fm404 44 rfl).trans ((fr2 Fm389 44 rfl).trans (fr2 Fm376 44 rfl))))))) rfl ?_
    refine T_ld 91 (.ref 189) rfl (fun _ => rfl) ?_
    refine T_ld 93 (.int (i32 59)) rfl (fun _ => rfl) ?_
    refine T_call 96 232 [.ref 189, .int (i32 59)] [] rfl (fun _ => rfl) rfl (d_need w (mO m441 [] [(44, upI (m.2 44) d x442)]) c N D (by omega) (Ty_mO Tm441 rfl rfl trivial ⟨G455, trivial⟩) 59 ⟨by decide, by decide⟩ (show 1 ≤ (59 : Int) by omega) (show LxP (m441.1 7) (m441.1 8) (m441.1 9) (m441.1 6) (m441.1 10) by rewrite [(show (m441.1 6) = (m.1 6) from ((fr1 Fm441 6 rfl).trans ((fr1 Fm429 6 rfl).trans ((fr1 Fm417 6 rfl).trans ((fr1 Fm404 6 rfl).trans ((fr1 Fm389 6 rfl).trans (fr1 Fm376 6 rfl)))))))]; first | exact hLx | (intro h9; exfalso; omega) | (intro h9; have h8 := hLx (by omega); omega))) (fun rr456 k457 => ?_)
    obtain ⟨m458, Tm458, Fm458, h459, h460, h461, h462, rfl⟩ := k457
    refine ⟨_, _, rfl, ?_⟩
    refine T_nb (st' := []) rfl ?_
    have g463 : 0 ≤ m458.1 7 ∧ m458.1 7 ≤ 330 := Tm458.1 7
    have g464 : 0 ≤ m458.1 8 ∧ m458.1 8 ≤ 4000 := Tm458.1 8
    have g465 : 0 ≤ m458.1 9 ∧ m458.1 9 ≤ 4000 := Tm458.1 9
    have g466 : 0 ≤ m458.1 10 ∧ m458.1 10 ≤ 8 := Tm458.1 10
    replace h459 : LxP (m458.1 7) (m458.1 8) (m458.1 9) (m441.1 6) (m458.1 10) := h459
    rewrite [(show (m441.1 6) = (m.1 6) from ((fr1 Fm441 6 rfl).trans ((fr1 Fm429 6 rfl).trans ((fr1 Fm417 6 rfl).trans ((fr1 Fm404 6 rfl).trans ((fr1 Fm389 6 rfl).trans (fr1 Fm376 6 rfl)))))))] at h459
    replace h460 : (m458.1 10) = 0 → (m441.1 10) = 0 ∧ (m441.1 7) = (59 : Int) := h460
    replace h461 : (m441.1 8) ≤ (m458.1 8) := h461
    replace h462 : (m458.1 10) = 0 → (m441.1 8) + (m441.1 9) ≤ (m458.1 8) := h462
    have hf467 : 1 ≤ (m458.1 10) := by omega
    clear h460
    clear h462
    have hLx := h459
    clear g448 g449 g450 g451 hf454 h445 h461
    refine T_ld 97 (.ref 189) rfl (fun _ => rfl) ?_
    refine T_ld 99 (.int (i32 125)) rfl (fun _ => rfl) ?_
    refine T_call 102 232 [.ref 189, .int (i32 125)] [] rfl (fun _ => rfl) rfl (d_need w (mO m458 [] []) c N D (by omega) Tm458 125 ⟨by decide, by decide⟩ (show 1 ≤ (125 : Int) by omega) (show LxP (m458.1 7) (m458.1 8) (m458.1 9) (m458.1 6) (m458.1 10) by rewrite [(show (m458.1 6) = (m.1 6) from ((fr1 Fm458 6 rfl).trans ((fr1 Fm441 6 rfl).trans ((fr1 Fm429 6 rfl).trans ((fr1 Fm417 6 rfl).trans ((fr1 Fm404 6 rfl).trans ((fr1 Fm389 6 rfl).trans (fr1 Fm376 6 rfl))))))))]; first | exact hLx | (intro h9; exfalso; omega) | (intro h9; have h8 := hLx (by omega); omega))) (fun rr468 k469 => ?_)
    obtain ⟨m470, Tm470, Fm470, h471, h472, h473, h474, rfl⟩ := k469
    refine ⟨_, _, rfl, ?_⟩
    refine T_nb (st' := []) rfl ?_
    have g475 : 0 ≤ m470.1 7 ∧ m470.1 7 ≤ 330 := Tm470.1 7
    have g476 : 0 ≤ m470.1 8 ∧ m470.1 8 ≤ 4000 := Tm470.1 8
    have g477 : 0 ≤ m470.1 9 ∧ m470.1 9 ≤ 4000 := Tm470.1 9
    have g478 : 0 ≤ m470.1 10 ∧ m470.1 10 ≤ 8 := Tm470.1 10
    replace h471 : LxP (m470.1 7) (m470.1 8) (m470.1 9) (m458.1 6) (m470.1 10) := h471
    rewrite [(show (m458.1 6) = (m.1 6) from ((fr1 Fm458 6 rfl).trans ((fr1 Fm441 6 rfl).trans ((fr1 Fm429 6 rfl).trans ((fr1 Fm417 6 rfl).trans ((fr1 Fm404 6 rfl).trans ((fr1 Fm389 6 rfl).trans (fr1 Fm376 6 rfl))))))))] at h471
    replace h472 : (m470.1 10) = 0 → (m458.1 10) = 0 ∧ (m458.1 7) = (125 : Int) := h472
    replace h473 : (m458.1 8) ≤ (m470.1 8) := h473
    replace h474 : (m470.1 10) = 0 → (m458.1 8) + (m458.1 9) ≤ (m470.1 8) := h474
    have hf479 : 1 ≤ (m470.1 10) := by omega
    clear h472
    clear h474
    have hLx := h471
    clear g463 g464 g465 g466 hf467 h459 h473
    refine T_ret rfl (fun _ => rfl) ?_
    exact ⟨(mO m470 [] []), Tm470, (fr_m (fr_s Fm470 (fr_m (fr_s Fm458 (fr_m (fr_s Fm441 (fr_m (fr_s Fm429 (fr_m (fr_s Fm417 (fr_m (fr_s Fm404 (fr_m (fr_s Fm389 (fr_m (fr_s Fm376 (fr_m fr_0 rfl rfl) rfl rfl) rfl rfl) rfl rfl) rfl rfl) rfl rfl) rfl rfl) rfl rfl) rfl rfl) rfl rfl) rfl rfl) rfl rfl) rfl rfl) rfl rfl) rfl rfl) rfl rfl) rfl rfl), (show (m470.1 10) = 0 → (m.1 10) = 0 by omega), (show LxP (m470.1 7) (m470.1 8) (m470.1 9) (m.1 6) (m470.1 10) by first | (first | exact hLx | exact (fun _ => hLx (by omega)) | (intro h9; exfalso; omega)) | (exfalso; omega)), (show ∀ k, (m470.2 14) k + (m470.2 15) k ≤ 4000 by rewrite [(show (m470.2 14) = (m441.2 14) from ((fr2 Fm470 14 rfl).trans (fr2 Fm458 14 rfl))), (show (m470.2 15) = (m441.2 15) from ((fr2 Fm470 15 rfl).trans (fr2 Fm458 15 rfl)))]; first | (first | exact hNM | (intro k; rw [hE1, hE2]; have := hNM k; have h7 := hLx0 hf0; unfold upI; split <;> omega)) | (exfalso; omega)), (fun (h : (m470.1 10) = 0) => absurd h (by omega)), rfl⟩
