def fF_takeState : List Nat := [7, 8, 9, 10, 11, 12, 13, 23, 24, 28, 69, 70, 71, 72, 73, 74, 75]
def fA_takeState : List Nat := [14, 15, 16, 17, 37, 38, 39, 40, 41, 42, 43, 44, 45, 65, 66, 67, 68, 76, 77, 78, 79, 80, 81, 82, 83, 84, 85, 86, 87, 88, 89, 90, 91, 92, 94, 95, 96, 97, 98]
def Q_takeState (m : mR) (c : Nat → Option am_C) (N : Nat) : ag_Re af_T → Prop := fun R => ∃ (M : mR), Ty M ∧ fr fF_takeState fA_takeState m M ∧ ((M.1 10) = 0 → (m.1 10) = 0) ∧ (LxP (M.1 7) (M.1 8) (M.1 9) (m.1 6) (M.1 10)) ∧ (∀ k, (M.2 14) k + (M.2 15) k ≤ 4000) ∧ (M.1 10 = 0 → ((m.1 8) + 1 ≤ (M.1 8)) ∧ (PN (M.1 13) (m.1 19) (m.1 20) (m.1 21) (m.1 22) (M.1 23) (m.1 25) (m.1 26) (M.2 16) (M.2 17)) ∧ (CN (M.2 65) (M.2 67) (M.1 28)) ∧ (SOp (M.2 38) (M.1 23) (M.1 24)) ∧ ((m.1 23) ≤ (M.1 23)) ∧ ((m.1 28) ≤ (M.1 28)) ∧ (agr (m.2 65) (M.2 65) (m.1 28)) ∧ (StP (M.2 65) (M.1 28) (M.1 23) (M.1 24) (M.2 42) (M.2 95) (M.2 96) (M.2 44) (M.2 45))) ∧ R = (.inl (none), (mhp M c, N), 0, 0)
set_option maxHeartbeats 3000000 in
theorem c_takeState (w : wX) (m : mR) (c : Nat → Option am_C) (N D : Nat) (hD : 12 ≤ D) (hT : Ty m) (hLx0 : LxP (m.1 7) (m.1 8) (m.1 9) (m.1 6) (m.1 10)) (hNM0 : ∀ k, (m.2 14) k + (m.2 15) k ≤ 4000) (hFA0 : ∀ k, (m.2 31) k + (m.2 32) k ≤ 4000) (hPA0 : ∀ k, (m.2 47) k + (m.2 48) k ≤ 4000) (hC : m.1 10 = 0 → (PN (m.1 13) (m.1 19) (m.1 20) (m.1 21) (m.1 22) (m.1 23) (m.1 25) (m.1 26) (m.2 16) (m.2 17)) ∧ (CN (m.2 65) (m.2 67) (m.1 28)) ∧ (SOp (m.2 38) (m.1 23) (m.1 24)) ∧ (StP (m.2 65) (m.1 28) (m.1 23) (m.1 24) (m.2 42) (m.2 95) (m.2 96) (m.2 44) (m.2 45)) ∧ ((m.1 7) ≠ 0)) : TC w D 240 [.ref 189] (mhp m c, N) (Q_takeState m c N) := by
  obtain ⟨D, rfl⟩ : ∃ k, D = k + 1 := ⟨D - 1, by omega⟩
  have hLx := hLx0
  have hNM := hNM0
  have hFA := hFA0
  have hPA := hPA0
  have f7 : 0 ≤ m.1 7 ∧ m.1 7 ≤ 330 := hT.1 7
  have f8 : 0 ≤ m.1 8 ∧ m.1 8 ≤ 4000 := hT.1 8
  have f9 : 0 ≤ m.1 9 ∧ m.1 9 ≤ 4000 := hT.1 9
  have f10 : 0 ≤ m.1 10 ∧ m.1 10 ≤ 8 := hT.1 10
  have f11 : (-1) ≤ m.1 11 ∧ m.1 11 ≤ 4000 := hT.1 11
  have f13 : 0 ≤ m.1 13 ∧ m.1 13 ≤ 120 := hT.1 13
  have f23 : 0 ≤ m.1 23 ∧ m.1 23 ≤ 16 := hT.1 23
  have f24 : 0 ≤ m.1 24 ∧ m.1 24 ≤ 16 := hT.1 24
  have f28 : 0 ≤ m.1 28 ∧ m.1 28 ≤ 800 := hT.1 28
  have f25 : 0 ≤ m.1 25 ∧ m.1 25 ≤ 16 := hT.1 25
  have f22 : 0 ≤ m.1 22 ∧ m.1 22 ≤ 8 := hT.1 22
  have f19 : 0 ≤ m.1 19 ∧ m.1 19 ≤ 12 := hT.1 19
  have f20 : 0 ≤ m.1 20 ∧ m.1 20 ≤ 12 := hT.1 20
  have f21 : 0 ≤ m.1 21 ∧ m.1 21 ≤ 16 := hT.1 21
  have f6 : 0 ≤ m.1 6 ∧ m.1 6 ≤ 4000 := hT.1 6
  have f26 : 0 ≤ m.1 26 ∧ m.1 26 ≤ 8 := hT.1 26
  refine Tc_of rfl ?_
  show TT w D pm_240 (0, [(0, .ref 189)], [], (mhp (mO m [] []) c, N), 0, 0) (Q_takeState m c N)
  by_cases hf0 : m.1 10 = 0
  · skip
    obtain ⟨pPN, hCN, pSO, pSt, c1⟩ := hC hf0
    have h7 := hLx (by omega)
    have hNM := hNM0
    have hn := pPN.1
    have hSle := SOp_le pSO
    have hAg := agr_r (m.2 65) (m.1 28)
    have J343_22 : ∀ (m21 : mR), Ty m21 → fr [7, 8, 9, 10, 11, 12, 13, 23, 24, 28, 69, 70, 71, 72, 73, 74, 75] [14, 15, 16, 17, 37, 38, 39, 40, 41, 42, 43, 44, 45, 65, 66, 67, 68, 76, 77, 78, 79, 80, 81, 82, 83, 84, 85, 86, 87, 88, 89, 90, 91, 92, 94, 95, 96, 97, 98] (mO m [] []) m21 → (∀ k, (m21.2 14) k + (m21.2 15) k ≤ 4000) → ((m.1 24) ≤ 15) → (1 ≤ (m21.1 10)) → TT w D pm_240 (343, [(0, .ref 189)], [], (mhp (mO m21 [] []) c, N), 0, 0) (Q_takeState m c N) := by
      intro m21 Tm21 Fm21 ic23 ic24 ic25
      have q26_7 : 0 ≤ m21.1 7 ∧ m21.1 7 ≤ 330 := Tm21.1 7
      have q26_8 : 0 ≤ m21.1 8 ∧ m21.1 8 ≤ 4000 := Tm21.1 8
      have q26_9 : 0 ≤ m21.1 9 ∧ m21.1 9 ≤ 4000 := Tm21.1 9
      have q26_10 : 0 ≤ m21.1 10 ∧ m21.1 10 ≤ 8 := Tm21.1 10
      have q26_11 : (-1) ≤ m21.1 11 ∧ m21.1 11 ≤ 4000 := Tm21.1 11
      have q26_13 : 0 ≤ m21.1 13 ∧ m21.1 13 ≤ 120 := Tm21.1 13
      have q26_23 : 0 ≤ m21.1 23 ∧ m21.1 23 ≤ 16 := Tm21.1 23
      have q26_24 : 0 ≤ m21.1 24 ∧ m21.1 24 ≤ 16 := Tm21.1 24
      have q26_28 : 0 ≤ m21.1 28 ∧ m21.1 28 ≤ 800 := Tm21.1 28
      have hNM := ic23
      refine T_ret rfl (fun _ => rfl) ?_
      exact ⟨(mO m21 [] []), Tm21, (fr_m (fr_s Fm21 (fr_m fr_0 rfl rfl) rfl rfl) rfl rfl), (show (m21.1 10) = 0 → (m.1 10) = 0 by omega), (show LxP (m21.1 7) (m21.1 8) (m21.1 9) (m.1 6) (m21.1 10) by first | (first | exact hLx | exact (fun _ => hLx (by omega)) | (intro h9; exfalso; omega)) | (exfalso; omega)), (show ∀ k, (m21.2 14) k + (m21.2 15) k ≤ 4000 by first | (first | exact hNM | (intro k; rw [hE1, hE2]; have := hNM k; have h7 := hLx0 hf0; unfold upI; split <;> omega)) | (exfalso; omega)), (fun (h : (m21.1 10) = 0) => absurd h (by omega)), rfl⟩
    have J337_29 : ∀ (m28 : mR), Ty m28 → fr [7, 8, 9, 10, 11, 12, 13, 23, 24] [14, 15, 16, 17, 37, 38, 39, 40, 41, 42, 43, 94] (mO m [] []) m28 → (∀ k, (m28.2 14) k + (m28.2 15) k ≤ 4000) → ((m.1 24) ≤ 15) → (1 ≤ (m28.1 10)) → TT w D pm_240 (337, [(0, .ref 189)], [], (mhp (mO m28 [] []) c, N), 0, 0) (Q_takeState m c N) := by
      intro m28 Tm28 Fm28 ic30 ic31 ic32
      have q33_7 : 0 ≤ m28.1 7 ∧ m28.1 7 ≤ 330 := Tm28.1 7
      have q33_8 : 0 ≤ m28.1 8 ∧ m28.1 8 ≤ 4000 := Tm28.1 8
      have q33_9 : 0 ≤ m28.1 9 ∧ m28.1 9 ≤ 4000 := Tm28.1 9
      have q33_10 : 0 ≤ m28.1 10 ∧ m28.1 10 ≤ 8 := Tm28.1 10
      have q33_11 : (-1) ≤ m28.1 11 ∧ m28.1 11 ≤ 4000 := Tm28.1 11
      have q33_13 : 0 ≤ m28.1 13 ∧ m28.1 13 ≤ 120 := Tm28.1 13
      have q33_23 : 0 ≤ m28.1 23 ∧ m28.1 23 ≤ 16 := Tm28.1 23
      have q33_24 : 0 ≤ m28.1 24 ∧ m28.1 24 ≤ 16 := Tm28.1 24
      have hNM := ic30
      refine T_ld 338 (.ref 189) rfl (fun _ => rfl) ?_
      refine T_ld 340 (.int (i32 125)) rfl (fun _ => rfl) ?_
      refine T_call 343 232 [.ref 189, .int (i32 125)] [] rfl (fun _ => rfl) rfl (d_need w (mO m28 [] []) c N D (by omega) Tm28 125 ⟨by decide, by decide⟩ (show 1 ≤ (125 : Int) by omega) (show LxP (m28.1 7) (m28.1 8) (m28.1 9) (m28.1 6) (m28.1 10) by rewrite [(show (m28.1 6) = (m.1 6) from (fr1 Fm28 6 rfl))]; first | exact hLx | (intro h9; exfalso; omega) | (intro h9; have h8 := hLx (by omega); omega))) (fun rr35 k36 => ?_)
      obtain ⟨m37, Tm37, Fm37, h38, h39, h40, h41, rfl⟩ := k36
      refine ⟨_, _, rfl, ?_⟩
      refine T_nb (st' := []) rfl ?_
      have g42 : 0 ≤ m37.1 7 ∧ m37.1 7 ≤ 330 := Tm37.1 7
      have g43 : 0 ≤ m37.1 8 ∧ m37.1 8 ≤ 4000 := Tm37.1 8
      have g44 : 0 ≤ m37.1 9 ∧ m37.1 9 ≤ 4000 := Tm37.1 9
      have g45 : 0 ≤ m37.1 10 ∧ m37.1 10 ≤ 8 := Tm37.1 10
      have g46 : (-1) ≤ m37.1 11 ∧ m37.1 11 ≤ 4000 := Tm37.1 11
      replace h38 : LxP (m37.1 7) (m37.1 8) (m37.1 9) (m28.1 6) (m37.1 10) := h38
      rewrite [(show (m28.1 6) = (m.1 6) from (fr1 Fm28 6 rfl))] at h38
      replace h39 : (m37.1 10) = 0 → (m28.1 10) = 0 ∧ (m28.1 7) = (125 : Int) := h39
      replace h40 : (m28.1 8) ≤ (m37.1 8) := h40
      replace h41 : (m37.1 10) = 0 → (m28.1 8) + (m28.1 9) ≤ (m37.1 8) := h41
      have hf47 : 1 ≤ (m37.1 10) := by omega
      clear h39
      clear h41
      have hLx := h38
      clear q33_7 q33_8 q33_9 q33_10 q33_11 ic32 h40
      exact J343_22 (mO m37 [] []) Tm37 (fr_m (fr_s Fm37 (fr_m (fr_s Fm28 (fr_m fr_0 rfl rfl) rfl rfl) rfl rfl) rfl rfl) rfl rfl) (show ∀ k, (m37.2 14) k + (m37.2 15) k ≤ 4000 by rewrite [(show (m37.2 14) = (m28.2 14) from (fr2 Fm37 14 rfl)), (show (m37.2 15) = (m28.2 15) from (fr2 Fm37 15 rfl))]; first | exact hNM | (intro k; rw [hE1, hE2]; have := hNM0 k; have h7 := hLx1; unfold upI; split <;> omega)) (show (m.1 24) ≤ 15 by omega) (show 1 ≤ (m37.1 10) by omega)
    have J330_49 : ∀ (m48 : mR), Ty m48 → fr [7, 8, 9, 10, 11, 12, 13, 23, 24, 28, 69, 70, 71, 72, 73, 74, 75] [14, 15, 16, 17, 37, 38, 39, 40, 41, 42, 43, 44, 45, 65, 66, 67, 68, 76, 77, 78, 79, 80, 81, 82, 83, 84, 85, 86, 87, 88, 89, 90, 91, 92, 94, 95, 96, 97, 98] (mO m [] []) m48 → (∀ k, (m48.2 14) k + (m48.2 15) k ≤ 4000) → ((m.1 24) ≤ 15) → (1 ≤ (m48.1 10)) → TT w D pm_240 (330, [(0, .ref 189)], [], (mhp (mO m48 [] []) c, N), 0, 0) (Q_takeState m c N) := by
      intro m48 Tm48 Fm48 ic50 ic51 ic52
      have q53_7 : 0 ≤ m48.1 7 ∧ m48.1 7 ≤ 330 := Tm48.1 7
      have q53_8 : 0 ≤ m48.1 8 ∧ m48.1 8 ≤ 4000 := Tm48.1 8
      have q53_9 : 0 ≤ m48.1 9 ∧ m48.1 9 ≤ 4000 := Tm48.1 9
      have q53_10 : 0 ≤ m48.1 10 ∧ m48.1 10 ≤ 8 := Tm48.1 10
      have q53_11 : (-1) ≤ m48.1 11 ∧ m48.1 11 ≤ 4000 := Tm48.1 11
      have q53_13 : 0 ≤ m48.1 13 ∧ m48.1 13 ≤ 120 := Tm48.1 13
      have q53_23 : 0 ≤ m48.1 23 ∧ m48.1 23 ≤ 16 := Tm48.1 23
      have q53_24 : 0 ≤ m48.1 24 ∧ m48.1 24 ≤ 16 := Tm48.1 24
      have q53_28 : 0 ≤ m48.1 28 ∧ m48.1 28 ≤ 800 := Tm48.1 28
      have hNM := ic50
      refine T_goto 337 rfl (fun _ => rfl) ?_
      refine T_ld 338 (.ref 189) rfl (fun _ => rfl) ?_
      refine T_ld 340 (.int (i32 125)) rfl (fun _ => rfl) ?_
      refine T_call 343 232 [.ref 189, .int (i32 125)] [] rfl (fun _ => rfl) rfl (d_need w (mO m48 [] []) c N D (by omega) Tm48 125 ⟨by decide, by decide⟩ (show 1 ≤ (125 : Int) by omega) (show LxP (m48.1 7) (m48.1 8) (m48.1 9) (m48.1 6) (m48.1 10) by rewrite [(show (m48.1 6) = (m.1 6) from (fr1 Fm48 6 rfl))]; first | exact hLx | (intro h9; exfalso; omega) | (intro h9; have h8 := hLx (by omega); omega))) (fun rr55 k56 => ?_)
      obtain ⟨m57, Tm57, Fm57, h58, h59, h60, h61, rfl⟩ := k56
      refine ⟨_, _, rfl, ?_⟩
      refine T_nb (st' := []) rfl ?_
      have g62 : 0 ≤ m57.1 7 ∧ m57.1 7 ≤ 330 := Tm57.1 7
      have g63 : 0 ≤ m57.1 8 ∧ m57.1 8 ≤ 4000 := Tm57.1 8
      have g64 : 0 ≤ m57.1 9 ∧ m57.1 9 ≤ 4000 := Tm57.1 9
      have g65 : 0 ≤ m57.1 10 ∧ m57.1 10 ≤ 8 := Tm57.1 10
      have g66 : (-1) ≤ m57.1 11 ∧ m57.1 11 ≤ 4000 := Tm57.1 11
      replace h58 : LxP (m57.1 7) (m57.1 8) (m57.1 9) (m48.1 6) (m57.1 10) := h58
      rewrite [(show (m48.1 6) = (m.1 6) from (fr1 Fm48 6 rfl))] at h58
      replace h59 : (m57.1 10) = 0 → (m48.1 10) = 0 ∧ (m48.1 7) = (125 : Int) := h59
      replace h60 : (m48.1 8) ≤ (m57.1 8) := h60
      replace h61 : (m57.1 10) = 0 → (m48.1 8) + (m48.1 9) ≤ (m57.1 8) := h61
      have hf67 : 1 ≤ (m57.1 10) := by omega
      clear h59
      clear h61
      have hLx := h58
      clear q53_7 q53_8 q53_9 q53_10 q53_11 ic52 h60
      exact J343_22 (mO m57 [] []) Tm57 (fr_m (fr_s Fm57 (fr_m (fr_s Fm48 (fr_m fr_0 rfl rfl) rfl rfl) rfl rfl) rfl rfl) rfl rfl) (show ∀ k, (m57.2 14) k + (m57.2 15) k ≤ 4000 by rewrite [(show (m57.2 14) = (m48.2 14) from (fr2 Fm57 14 rfl)), (show (m57.2 15) = (m48.2 15) from (fr2 Fm57 15 rfl))]; first | exact hNM | (intro k; rw [hE1, hE2]; have := hNM0 k; have h7 := hLx1; unfold upI; split <;> omega)) (show (m.1 24) ≤ 15 by omega) (show 1 ≤ (m57.1 10) by omega)
    have J312_69 : ∀ (m68 : mR), Ty m68 → fr [7, 8, 9, 10, 11, 12, 13, 23, 24] [14, 15, 16, 17, 37, 38, 39, 40, 41, 42, 43, 44, 94] (mO m [] []) m68 → (∀ k, (m68.2 14) k + (m68.2 15) k ≤ 4000) → ((m.1 24) ≤ 15) → (1 ≤ (m68.1 10)) → TT w D pm_240 (312, [(0, .ref 189)], [], (mhp (mO m68 [] []) c, N), 0, 0) (Q_takeState m c N) := by
      intro m68 Tm68 Fm68 ic70 ic71 ic72
      have q73_7 : 0 ≤ m68.1 7 ∧ m68.1 7 ≤ 330 := Tm68.1 7
      have q73_8 : 0 ≤ m68.1 8 ∧ m68.1 8 ≤ 4000 := Tm68.1 8
      have q73_9 : 0 ≤ m68.1 9 ∧ m68.1 9 ≤ 4000 := Tm68.1 9
      have q73_10 : 0 ≤ m68.1 10 ∧ m68.1 10 ≤ 8 := Tm68.1 10
      have q73_11 : (-1) ≤ m68.1 11 ∧ m68.1 11 ≤ 4000 := Tm68.1 11
      have q73_13 : 0 ≤ m68.1 13 ∧ m68.1 13 ≤ 120 := Tm68.1 13
      have q73_23 : 0 ≤ m68.1 23 ∧ m68.1 23 ≤ 16 := Tm68.1 23
      have q73_24 : 0 ≤ m68.1 24 ∧ m68.1 24 ≤ 16 := Tm68.1 24
      have hNM := ic70
      refine T_goto 337 rfl (fun _ => rfl) ?_
      refine T_ld 338 (.ref 189) rfl (fun _ => rfl) ?_
      refine T_ld 340 (.int (i32 125)) rfl (fun _ => rfl) ?_
      refine T_call 343 232 [.ref 189, .int (i32 125)] [] rfl (fun _ => rfl) rfl (d_need w (mO m68 [] []) c N D (by omega) Tm68 125 ⟨by decide, by decide⟩ (show 1 ≤ (125 : Int) by omega) (show LxP (m68.1 7) (m68.1 8) (m68.1 9) (m68.1 6) (m68.1 10) by rewrite [(show (m68.1 6) = (m.1 6) from (fr1 Fm68 6 rfl))]; first | exact hLx | (intro h9; exfalso; omega) | (intro h9; have h8 := hLx (by omega); omega))) (fun rr75 k76 => ?_)
      obtain ⟨m77, Tm77, Fm77, h78, h79, h80, h81, rfl⟩ := k76
      refine ⟨_, _, rfl, ?_⟩
      refine T_nb (st' := []) rfl ?_
      have g82 : 0 ≤ m77.1 7 ∧ m77.1 7 ≤ 330 := Tm77.1 7
      have g83 : 0 ≤ m77.1 8 ∧ m77.1 8 ≤ 4000 := Tm77.1 8
      have g84 : 0 ≤ m77.1 9 ∧ m77.1 9 ≤ 4000 := Tm77.1 9
      have g85 : 0 ≤ m77.1 10 ∧ m77.1 10 ≤ 8 := Tm77.1 10
      have g86 : (-1) ≤ m77.1 11 ∧ m77.1 11 ≤ 4000 := Tm77.1 11
      replace h78 : LxP (m77.1 7) (m77.1 8) (m77.1 9) (m68.1 6) (m77.1 10) := h78
      rewrite [(show (m68.1 6) = (m.1 6) from (fr1 Fm68 6 rfl))] at h78
      replace h79 : (m77.1 10) = 0 → (m68.1 10) = 0 ∧ (m68.1 7) = (125 : Int) := h79
      replace h80 : (m68.1 8) ≤ (m77.1 8) := h80
      replace h81 : (m77.1 10) = 0 → (m68.1 8) + (m68.1 9) ≤ (m77.1 8) := h81
      have hf87 : 1 ≤ (m77.1 10) := by omega
      clear h79
      clear h81
      have hLx := h78
      clear q73_7 q73_8 q73_9 q73_10 q73_11 ic72 h80
      exact J343_22 (mO m77 [] []) Tm77 (fr_m (fr_s Fm77 (fr_m (fr_s Fm68 (fr_m fr_0 rfl rfl) rfl rfl) rfl rfl) rfl rfl) rfl rfl) (show ∀ k, (m77.2 14) k + (m77.2 15) k ≤ 4000 by rewrite [(show (m77.2 14) = (m68.2 14) from (fr2 Fm77 14 rfl)), (show (m77.2 15) = (m68.2 15) from (fr2 Fm77 15 rfl))]; first | exact hNM | (intro k; rw [hE1, hE2]; have := hNM0 k; have h7 := hLx1; unfold upI; split <;> omega)) (show (m.1 24) ≤ 15 by omega) (show 1 ≤ (m77.1 10) by omega)
    have J305_90 : ∀ (s88 : Int) (m89 : mR), (R32 s88) → Ty m89 → fr [7, 8, 9, 10, 11, 12, 13, 23, 24] [14, 15, 16, 17, 37, 38, 39, 40, 41, 42, 43, 94] (mO m [] []) m89 → ((-2) ≤ s88) → (s88 ≤ 15) → (∀ k, (m89.2 14) k + (m89.2 15) k ≤ 4000) → ((m.1 24) ≤ 15) → (0 ≤ (m.1 24) ∧ (m.1 24) ≤ 16) → (1 ≤ (m89.1 10)) → TT w D pm_240 (305, [(0, .ref 189)], [.int (i32 s88), .int (i32 (m.1 24)), .ref 214], (mhp (mO m89 [] []) c, N), 0, 0) (Q_takeState m c N) := by
      intro s88 m89 q97 Tm89 Fm89 ic91 ic92 ic93 ic94 ic95 ic96
      obtain ⟨q97a, q97b⟩ := id q97
      have q98_7 : 0 ≤ m89.1 7 ∧ m89.1 7 ≤ 330 := Tm89.1 7
      have q98_8 : 0 ≤ m89.1 8 ∧ m89.1 8 ≤ 4000 := Tm89.1 8
      have q98_9 : 0 ≤ m89.1 9 ∧ m89.1 9 ≤ 4000 := Tm89.1 9
      have q98_10 : 0 ≤ m89.1 10 ∧ m89.1 10 ≤ 8 := Tm89.1 10
      have q98_11 : (-1) ≤ m89.1 11 ∧ m89.1 11 ≤ 4000 := Tm89.1 11
      have q98_13 : 0 ≤ m89.1 13 ∧ m89.1 13 ≤ 120 := Tm89.1 13
      have q98_23 : 0 ≤ m89.1 23 ∧ m89.1 23 ≤ 16 := Tm89.1 23
      have q98_24 : 0 ≤ m89.1 24 ∧ m89.1 24 ≤ 16 := Tm89.1 24
      have hNM := ic93
      have G100 : ∀ j, (-2) ≤ (upI (m.2 44) (m.1 24) s88) j ∧ (upI (m.2 44) (m.1 24) s88) j ≤ 15 := upI_rg (hT.2.1 44) ⟨by omega, by omega⟩
      refine T_iast (a' := [(44, upI (m.2 44) (m.1 24) s88)]) 306 44 (m.2 44) rfl rfl rfl (by omega) (show (m.1 24) < (16 : Int) by omega) (show (m89.2 44) = (m.2 44) from (fr2 Fm89 44 rfl)) rfl ?_
      refine T_ld 307 (.ref 189) rfl (fun _ => rfl) ?_
      refine T_ld 309 (.int (i32 59)) rfl (fun _ => rfl) ?_
      refine T_call 312 232 [.ref 189, .int (i32 59)] [] rfl (fun _ => rfl) rfl (d_need w (mO m89 [] [(44, upI (m.2 44) (m.1 24) s88)]) c N D (by omega) (Ty_mO Tm89 rfl rfl trivial ⟨G100, trivial⟩) 59 ⟨by decide, by decide⟩ (show 1 ≤ (59 : Int) by omega) (show LxP (m89.1 7) (m89.1 8) (m89.1 9) (m89.1 6) (m89.1 10) by rewrite [(show (m89.1 6) = (m.1 6) from (fr1 Fm89 6 rfl))]; first | exact hLx | (intro h9; exfalso; omega) | (intro h9; have h8 := hLx (by omega); omega))) (fun rr101 k102 => ?_)
      obtain ⟨m103, Tm103, Fm103, h104, h105, h106, h107, rfl⟩ := k102
      refine ⟨_, _, rfl, ?_⟩
      refine T_nb (st' := []) rfl ?_
      have g108 : 0 ≤ m103.1 7 ∧ m103.1 7 ≤ 330 := Tm103.1 7
      have g109 : 0 ≤ m103.1 8 ∧ m103.1 8 ≤ 4000 := Tm103.1 8
      have g110 : 0 ≤ m103.1 9 ∧ m103.1 9 ≤ 4000 := Tm103.1 9
      have g111 : 0 ≤ m103.1 10 ∧ m103.1 10 ≤ 8 := Tm103.1 10
      have g112 : (-1) ≤ m103.1 11 ∧ m103.1 11 ≤ 4000 := Tm103.1 11
      replace h104 : LxP (m103.1 7) (m103.1 8) (m103.1 9) (m89.1 6) (m103.1 10) := h104
      rewrite [(show (m89.1 6) = (m.1 6) from (fr1 Fm89 6 rfl))] at h104
      replace h105 : (m103.1 10) = 0 → (m89.1 10) = 0 ∧ (m89.1 7) = (59 : Int) := h105
      replace h106 : (m89.1 8) ≤ (m103.1 8) := h106
      replace h107 : (m103.1 10) = 0 → (m89.1 8) + (m89.1 9) ≤ (m103.1 8) := h107
      have hf113 : 1 ≤ (m103.1 10) := by omega
      clear h105
      clear h107
      have hLx := h104
      clear q98_7 q98_8 q98_9 q98_10 q98_11 ic96 h106
      exact J312_69 (mO m103 [] []) Tm103 (fr_m (fr_s Fm103 (fr_m (fr_s Fm89 (fr_m fr_0 rfl rfl) rfl rfl) rfl rfl) rfl rfl) rfl rfl) (show ∀ k, (m103.2 14) k + (m103.2 15) k ≤ 4000 by rewrite [(show (m103.2 14) = (m89.2 14) from (fr2 Fm103 14 rfl)), (show (m103.2 15) = (m89.2 15) from (fr2 Fm103 15 rfl))]; first | exact hNM | (intro k; rw [hE1, hE2]; have := hNM0 k; have h7 := hLx1; unfold upI; split <;> omega)) (show (m.1 24) ≤ 15 by omega) (show 1 ≤ (m103.1 10) by omega)
    have J296_115 : ∀ (m114 : mR), Ty m114 → fr [7, 8, 9, 10, 11, 12, 13, 23, 24] [14, 15, 16, 17, 37, 38, 39, 40, 41, 42, 43, 94] (mO m [] []) m114 → (∀ k, (m114.2 14) k + (m114.2 15) k ≤ 4000) → ((m.1 24) ≤ 15) → (0 ≤ (m.1 24) ∧ (m.1 24) ≤ 16) → (1 ≤ (m114.1 10)) → TT w D pm_240 (296, [(0, .ref 189), (3, .int (i32 (m.1 24)))], [], (mhp (mO m114 [] []) c, N), 0, 0) (Q_takeState m c N) := by
      intro m114 Tm114 Fm114 ic116 ic117 ic118 ic119
      have q120_7 : 0 ≤ m114.1 7 ∧ m114.1 7 ≤ 330 := Tm114.1 7
      have q120_8 : 0 ≤ m114.1 8 ∧ m114.1 8 ≤ 4000 := Tm114.1 8
      have q120_9 : 0 ≤ m114.1 9 ∧ m114.1 9 ≤ 4000 := Tm114.1 9
      have q120_10 : 0 ≤ m114.1 10 ∧ m114.1 10 ≤ 8 := Tm114.1 10
      have q120_11 : (-1) ≤ m114.1 11 ∧ m114.1 11 ≤ 4000 := Tm114.1 11
      have q120_13 : 0 ≤ m114.1 13 ∧ m114.1 13 ≤ 120 := Tm114.1 13
      have q120_23 : 0 ≤ m114.1 23 ∧ m114.1 23 ≤ 16 := Tm114.1 23
      have q120_24 : 0 ≤ m114.1 24 ∧ m114.1 24 ≤ 16 := Tm114.1 24
      have hNM := ic116
      refine T_gf 300 (.ref 214) rfl rfl rfl rfl rfl rfl ?_
      refine T_ld 301 (.int (i32 (m.1 24))) rfl (fun _ => rfl) ?_
      refine T_ld 302 (.ref 189) rfl (fun _ => rfl) ?_
      refine T_call 305 242 [.ref 189] [.int (i32 (m.1 24)), .ref 214] rfl (fun _ => rfl) rfl (c_stateHere w (mO m114 [] []) c N D (by omega) Tm114 (show LxP (m114.1 7) (m114.1 8) (m114.1 9) (m114.1 6) (m114.1 10) by rewrite [(show (m114.1 6) = (m.1 6) from (fr1 Fm114 6 rfl))]; first | exact hLx | exact (fun _ => hLx (by omega)) | (intro h9; exfalso; omega)) (show ∀ k, (m114.2 14) k + (m114.2 15) k ≤ 4000 by assumption) (fun (h : (m114.1 10) = 0) => absurd h (by omega))) (fun rr122 k123 => ?_)
      obtain ⟨m124, x125, Tm124, Fm124, g126, h127, h128, h129, c130, rfl⟩ := k123
      refine ⟨_, _, rfl, ?_⟩
      refine T_nb (st' := [.int (i32 x125), .int (i32 (m.1 24)), .ref 214]) rfl ?_
      obtain ⟨g126a, g126b⟩ := g126
      have g131 : 0 ≤ m124.1 7 ∧ m124.1 7 ≤ 330 := Tm124.1 7
      have g132 : 0 ≤ m124.1 8 ∧ m124.1 8 ≤ 4000 := Tm124.1 8
      have g133 : 0 ≤ m124.1 9 ∧ m124.1 9 ≤ 4000 := Tm124.1 9
      have g134 : 0 ≤ m124.1 10 ∧ m124.1 10 ≤ 8 := Tm124.1 10
      have g135 : (-1) ≤ m124.1 11 ∧ m124.1 11 ≤ 4000 := Tm124.1 11
      have g136 : 0 ≤ m124.1 13 ∧ m124.1 13 ≤ 120 := Tm124.1 13
      have g137 : 0 ≤ m124.1 23 ∧ m124.1 23 ≤ 16 := Tm124.1 23
      replace h127 : (m124.1 10) = 0 → (m114.1 10) = 0 := h127
      replace h128 : LxP (m124.1 7) (m124.1 8) (m124.1 9) (m114.1 6) (m124.1 10) := h128
      rewrite [(show (m114.1 6) = (m.1 6) from (fr1 Fm114 6 rfl))] at h128
      replace h129 : ∀ k, (m124.2 14) k + (m124.2 15) k ≤ 4000 := h129
      have hf138 : 1 ≤ (m124.1 10) := by omega
      clear c130
      clear h127
      have hLx := h128
      have hNM := h129
      clear q120_7 q120_8 q120_9 q120_10 q120_11 q120_13 q120_23 ic116 ic119
      refine Tm_lv (a := [(0, .ref 189)]) rfl rfl ⟨rfl, trivial⟩ ?_
      exact J305_90 x125 (mO m124 [] []) (r32 (by omega) (by omega)) Tm124 (fr_m (fr_s Fm124 (fr_m (fr_s Fm114 (fr_m fr_0 rfl rfl) rfl rfl) rfl rfl) rfl rfl) rfl rfl) (show (-2) ≤ x125 by omega) (show x125 ≤ 15 by omega) (show ∀ k, (m124.2 14) k + (m124.2 15) k ≤ 4000 by first | exact hNM | (intro k; rw [hE1, hE2]; have := hNM0 k; have h7 := hLx1; unfold upI; split <;> omega)) (show (m.1 24) ≤ 15 by omega) (show 0 ≤ (m.1 24) ∧ (m.1 24) ≤ 16 by omega) (show 1 ≤ (m124.1 10) by omega)
    have J271_140 : ∀ (m139 : mR), Ty m139 → fr [7, 8, 9, 10, 11, 12, 13, 23, 24] [14, 15, 16, 17, 37, 38, 39, 40, 41, 42, 43, 94] (mO m [] []) m139 → (∀ k, (m139.2 14) k + (m139.2 15) k ≤ 4000) → ((m.1 24) ≤ 15) → (0 ≤ (m.1 24) ∧ (m.1 24) ≤ 16) → (1 ≤ (m139.1 10)) → TT w D pm_240 (271, [(0, .ref 189), (3, .int (i32 (m.1 24)))], [], (mhp (mO m139 [] []) c, N), 0, 0) (Q_takeState m c N) := by
      intro m139 Tm139 Fm139 ic141 ic142 ic143 ic144
      have q145_7 : 0 ≤ m139.1 7 ∧ m139.1 7 ≤ 330 := Tm139.1 7
      have q145_8 : 0 ≤ m139.1 8 ∧ m139.1 8 ≤ 4000 := Tm139.1 8
      have q145_9 : 0 ≤ m139.1 9 ∧ m139.1 9 ≤ 4000 := Tm139.1 9
      have q145_10 : 0 ≤ m139.1 10 ∧ m139.1 10 ≤ 8 := Tm139.1 10
      have q145_11 : (-1) ≤ m139.1 11 ∧ m139.1 11 ≤ 4000 := Tm139.1 11
      have q145_13 : 0 ≤ m139.1 13 ∧ m139.1 13 ≤ 120 := Tm139.1 13
      have q145_23 : 0 ≤ m139.1 23 ∧ m139.1 23 ≤ 16 := Tm139.1 23
      have q145_24 : 0 ≤ m139.1 24 ∧ m139.1 24 ≤ 16 := Tm139.1 24
      have hNM := ic141
      refine T_goto 249 rfl (fun _ => rfl) ?_
      refine T_gf 253 (.int (i32 (m139.1 10))) rfl rfl rfl rfl rfl rfl ?_
      refine T_if 274 256 rfl rfl rfl (r32 (by omega) (by omega)) (fun (h147 : (m139.1 10) ≠ 0) => ?_) (fun (h147 : ¬ ((m139.1 10) ≠ 0)) => by exfalso; omega)
      refine T_gf 278 (.int (i32 (m139.1 10))) rfl rfl rfl rfl rfl rfl ?_
      refine T_if 282 281 rfl rfl rfl (r32 (by omega) (by omega)) (fun (h148 : (m139.1 10) ≤ 0) => by exfalso; omega) (fun (h148 : ¬ ((m139.1 10) ≤ 0)) => ?_)
      refine T_ret rfl (fun _ => rfl) ?_
      exact ⟨(mO m139 [] []), Tm139, (fr_m (fr_s Fm139 (fr_m fr_0 rfl rfl) rfl rfl) rfl rfl), (show (m139.1 10) = 0 → (m.1 10) = 0 by omega), (show LxP (m139.1 7) (m139.1 8) (m139.1 9) (m.1 6) (m139.1 10) by first | (first | exact hLx | exact (fun _ => hLx (by omega)) | (intro h9; exfalso; omega)) | (exfalso; omega)), (show ∀ k, (m139.2 14) k + (m139.2 15) k ≤ 4000 by first | (first | exact hNM | (intro k; rw [hE1, hE2]; have := hNM k; have h7 := hLx0 hf0; unfold upI; split <;> omega)) | (exfalso; omega)), (fun (h : (m139.1 10) = 0) => absurd h (by omega)), rfl⟩
    have J249_150 : ∀ (m149 : mR), Ty m149 → fr [7, 8, 9, 10, 11, 12, 13, 23, 24] [14, 15, 16, 17, 37, 38, 39, 40, 41, 42, 43] (mO m [] []) m149 → (∀ k, (m149.2 14) k + (m149.2 15) k ≤ 4000) → ((m.1 24) ≤ 15) → (0 ≤ (m.1 24) ∧ (m.1 24) ≤ 16) → (1 ≤ (m149.1 10)) → TT w D pm_240 (249, [(0, .ref 189), (3, .int (i32 (m.1 24)))], [], (mhp (mO m149 [] []) c, N), 0, 0) (Q_takeState m c N) := by
      intro m149 Tm149 Fm149 ic151 ic152 ic153 ic154
      have q155_7 : 0 ≤ m149.1 7 ∧ m149.1 7 ≤ 330 := Tm149.1 7
      have q155_8 : 0 ≤ m149.1 8 ∧ m149.1 8 ≤ 4000 := Tm149.1 8
      have q155_9 : 0 ≤ m149.1 9 ∧ m149.1 9 ≤ 4000 := Tm149.1 9
      have q155_10 : 0 ≤ m149.1 10 ∧ m149.1 10 ≤ 8 := Tm149.1 10
      have q155_11 : (-1) ≤ m149.1 11 ∧ m149.1 11 ≤ 4000 := Tm149.1 11
      have q155_13 : 0 ≤ m149.1 13 ∧ m149.1 13 ≤ 120 := Tm149.1 13
      have q155_23 : 0 ≤ m149.1 23 ∧ m149.1 23 ≤ 16 := Tm149.1 23
      have q155_24 : 0 ≤ m149.1 24 ∧ m149.1 24 ≤ 16 := Tm149.1 24
      have hNM := ic151
      refine T_gf 253 (.int (i32 (m149.1 10))) rfl rfl rfl rfl rfl rfl ?_
      refine T_if 274 256 rfl rfl rfl (r32 (by omega) (by omega)) (fun (h157 : (m149.1 10) ≠ 0) => ?_) (fun (h157 : ¬ ((m149.1 10) ≠ 0)) => by exfalso; omega)
      refine T_gf 278 (.int (i32 (m149.1 10))) rfl rfl rfl rfl rfl rfl ?_
      refine T_if 282 281 rfl rfl rfl (r32 (by omega) (by omega)) (fun (h158 : (m149.1 10) ≤ 0) => by exfalso; omega) (fun (h158 : ¬ ((m149.1 10) ≤ 0)) => ?_)
      refine T_ret rfl (fun _ => rfl) ?_
      exact ⟨(mO m149 [] []), Tm149, (fr_m (fr_s Fm149 (fr_m fr_0 rfl rfl) rfl rfl) rfl rfl), (show (m149.1 10) = 0 → (m.1 10) = 0 by omega), (show LxP (m149.1 7) (m149.1 8) (m149.1 9) (m.1 6) (m149.1 10) by first | (first | exact hLx | exact (fun _ => hLx (by omega)) | (intro h9; exfalso; omega)) | (exfalso; omega)), (show ∀ k, (m149.2 14) k + (m149.2 15) k ≤ 4000 by first | (first | exact hNM | (intro k; rw [hE1, hE2]; have := hNM k; have h7 := hLx0 hf0; unfold upI; split <;> omega)) | (exfalso; omega)), (fun (h : (m149.1 10) = 0) => absurd h (by omega)), rfl⟩
    have J243_160 : ∀ (m159 : mR), Ty m159 → fr [7, 8, 9, 10, 11, 12, 13, 23, 24] [14, 15, 16, 17, 37, 38, 39, 40, 41, 42, 43] (mO m [] []) m159 → (∀ k, (m159.2 14) k + (m159.2 15) k ≤ 4000) → ((m.1 24) ≤ 15) → (0 ≤ (m.1 24) ∧ (m.1 24) ≤ 16) → (1 ≤ (m159.1 10)) → TT w D pm_240 (243, [(0, .ref 189), (3, .int (i32 (m.1 24)))], [], (mhp (mO m159 [] []) c, N), 0, 0) (Q_takeState m c N) := by
      intro m159 Tm159 Fm159 ic161 ic162 ic163 ic164
      have q165_7 : 0 ≤ m159.1 7 ∧ m159.1 7 ≤ 330 := Tm159.1 7
      have q165_8 : 0 ≤ m159.1 8 ∧ m159.1 8 ≤ 4000 := Tm159.1 8
      have q165_9 : 0 ≤ m159.1 9 ∧ m159.1 9 ≤ 4000 := Tm159.1 9
      have q165_10 : 0 ≤ m159.1 10 ∧ m159.1 10 ≤ 8 := Tm159.1 10
      have q165_11 : (-1) ≤ m159.1 11 ∧ m159.1 11 ≤ 4000 := Tm159.1 11
      have q165_13 : 0 ≤ m159.1 13 ∧ m159.1 13 ≤ 120 := Tm159.1 13
      have q165_23 : 0 ≤ m159.1 23 ∧ m159.1 23 ≤ 16 := Tm159.1 23
      have q165_24 : 0 ≤ m159.1 24 ∧ m159.1 24 ≤ 16 := Tm159.1 24
      have hNM := ic161
      refine T_ld 244 (.ref 189) rfl (fun _ => rfl) ?_
      refine T_ld 246 (.int (i32 123)) rfl (fun _ => rfl) ?_
      refine T_call 249 232 [.ref 189, .int (i32 123)] [] rfl (fun _ => rfl) rfl (d_need w (mO m159 [] []) c N D (by omega) Tm159 123 ⟨by decide, by decide⟩ (show 1 ≤ (123 : Int) by omega) (show LxP (m159.1 7) (m159.1 8) (m159.1 9) (m159.1 6) (m159.1 10) by rewrite [(show (m159.1 6) = (m.1 6) from (fr1 Fm159 6 rfl))]; first | exact hLx | (intro h9; exfalso; omega) | (intro h9; have h8 := hLx (by omega); omega))) (fun rr167 k168 => ?_)
      obtain ⟨m169, Tm169, Fm169, h170, h171, h172, h173, rfl⟩ := k168
      refine ⟨_, _, rfl, ?_⟩
      refine T_nb (st' := []) rfl ?_
      have g174 : 0 ≤ m169.1 7 ∧ m169.1 7 ≤ 330 := Tm169.1 7
      have g175 : 0 ≤ m169.1 8 ∧ m169.1 8 ≤ 4000 := Tm169.1 8
      have g176 : 0 ≤ m169.1 9 ∧ m169.1 9 ≤ 4000 := Tm169.1 9
      have g177 : 0 ≤ m169.1 10 ∧ m169.1 10 ≤ 8 := Tm169.1 10
      have g178 : (-1) ≤ m169.1 11 ∧ m169.1 11 ≤ 4000 := Tm169.1 11
      replace h170 : LxP (m169.1 7) (m169.1 8) (m169.1 9) (m159.1 6) (m169.1 10) := h170
      rewrite [(show (m159.1 6) = (m.1 6) from (fr1 Fm159 6 rfl))] at h170
      replace h171 : (m169.1 10) = 0 → (m159.1 10) = 0 ∧ (m159.1 7) = (123 : Int) := h171
      replace h172 : (m159.1 8) ≤ (m169.1 8) := h172
      replace h173 : (m169.1 10) = 0 → (m159.1 8) + (m159.1 9) ≤ (m169.1 8) := h173
      have hf179 : 1 ≤ (m169.1 10) := by omega
      clear h171
      clear h173
      have hLx := h170
      clear q165_7 q165_8 q165_9 q165_10 q165_11 ic164 h172
      exact J249_150 (mO m169 [] []) Tm169 (fr_m (fr_s Fm169 (fr_m (fr_s Fm159 (fr_m fr_0 rfl rfl) rfl rfl) rfl rfl) rfl rfl) rfl rfl) (show ∀ k, (m169.2 14) k + (m169.2 15) k ≤ 4000 by rewrite [(show (m169.2 14) = (m159.2 14) from (fr2 Fm169 14 rfl)), (show (m169.2 15) = (m159.2 15) from (fr2 Fm169 15 rfl))]; first | exact hNM | (intro k; rw [hE1, hE2]; have := hNM0 k; have h7 := hLx1; unfold upI; split <;> omega)) (show (m.1 24) ≤ 15 by omega) (show 0 ≤ (m.1 24) ∧ (m.1 24) ≤ 16 by omega) (show 1 ≤ (m169.1 10) by omega)
    have J140_182 : ∀ (v180 : Int) (m181 : mR), (R32 v180) → Ty m181 → fr [7, 8, 9, 10, 11, 12] [] (mO m [] []) m181 → ((-2147483648) ≤ v180) → (v180 ≤ 2147483647) → (∀ k, (m.2 14) k + (m.2 15) k ≤ 4000) → (0 ≤ (m.1 23) ∧ (m.1 23) ≤ 16) → (1 ≤ (m181.1 10)) → TT w D pm_240 (140, [(0, .ref 189), (1, .int (i32 v180)), (2, .int (i32 (m.1 23)))], [], (mhp (mO m181 [] []) c, N), 0, 0) (Q_takeState m c N) := by
      intro v180 m181 q188 Tm181 Fm181 ic183 ic184 ic185 ic186 ic187
      obtain ⟨q188a, q188b⟩ := id q188
      have q189_7 : 0 ≤ m181.1 7 ∧ m181.1 7 ≤ 330 := Tm181.1 7
      have q189_8 : 0 ≤ m181.1 8 ∧ m181.1 8 ≤ 4000 := Tm181.1 8
      have q189_9 : 0 ≤ m181.1 9 ∧ m181.1 9 ≤ 4000 := Tm181.1 9
      have q189_10 : 0 ≤ m181.1 10 ∧ m181.1 10 ≤ 8 := Tm181.1 10
      have q189_11 : (-1) ≤ m181.1 11 ∧ m181.1 11 ≤ 4000 := Tm181.1 11
      have hNM := ic185
      refine T_gf 144 (.int (i32 (m181.1 10))) rfl rfl rfl rfl rfl rfl ?_
      refine T_if 148 147 rfl rfl rfl (r32 (by omega) (by omega)) (fun (h191 : (m181.1 10) ≤ 0) => by exfalso; omega) (fun (h191 : ¬ ((m181.1 10) ≤ 0)) => ?_)
      refine T_ret rfl (fun _ => rfl) ?_
      exact ⟨(mO m181 [] []), Tm181, (fr_m (fr_s Fm181 (fr_m fr_0 rfl rfl) rfl rfl) rfl rfl), (show (m181.1 10) = 0 → (m.1 10) = 0 by omega), (show LxP (m181.1 7) (m181.1 8) (m181.1 9) (m.1 6) (m181.1 10) by first | (first | exact hLx | exact (fun _ => hLx (by omega)) | (intro h9; exfalso; omega)) | (exfalso; omega)), (show ∀ k, (m181.2 14) k + (m181.2 15) k ≤ 4000 by rewrite [(show (m181.2 14) = (m.2 14) from (fr2 Fm181 14 rfl)), (show (m181.2 15) = (m.2 15) from (fr2 Fm181 15 rfl))]; first | (first | exact hNM | (intro k; rw [hE1, hE2]; have := hNM k; have h7 := hLx0 hf0; unfold upI; split <;> omega)) | (exfalso; omega)), (fun (h : (m181.1 10) = 0) => absurd h (by omega)), rfl⟩
    have J84_195 : ∀ (v192 : Int) (v193 : Int) (m194 : mR), (R32 v192) → (R32 v193) → Ty m194 → fr [7, 8, 9, 10, 11, 12] [] (mO m [] []) m194 → (5 ≤ v192) → (v192 ≤ 5) → ((-2147483648) ≤ v193) → (v193 ≤ 2147483647) → (∀ k, (m.2 14) k + (m.2 15) k ≤ 4000) → (1 ≤ (m194.1 10)) → TT w D pm_240 (84, [(0, .ref 189), (1, .int (i32 v192)), (2, .int (i32 v193))], [], (mhp (mO m194 [] []) c, N), 0, 0) (Q_takeState m c N) := by
      intro v192 v193 m194 q202 q203 Tm194 Fm194 ic196 ic197 ic198 ic199 ic200 ic201
      obtain ⟨q202a, q202b⟩ := id q202
      obtain ⟨q203a, q203b⟩ := id q203
      have q204_7 : 0 ≤ m194.1 7 ∧ m194.1 7 ≤ 330 := Tm194.1 7
      have q204_8 : 0 ≤ m194.1 8 ∧ m194.1 8 ≤ 4000 := Tm194.1 8
      have q204_9 : 0 ≤ m194.1 9 ∧ m194.1 9 ≤ 4000 := Tm194.1 9
      have q204_10 : 0 ≤ m194.1 10 ∧ m194.1 10 ≤ 8 := Tm194.1 10
      have q204_11 : (-1) ≤ m194.1 11 ∧ m194.1 11 ≤ 4000 := Tm194.1 11
      have hNM := ic200
      refine T_goto 140 rfl (fun _ => rfl) ?_
      refine T_gf 144 (.int (i32 (m194.1 10))) rfl rfl rfl rfl rfl rfl ?_
      refine T_if 148 147 rfl rfl rfl (r32 (by omega) (by omega)) (fun (h206 : (m194.1 10) ≤ 0) => by exfalso; omega) (fun (h206 : ¬ ((m194.1 10) ≤ 0)) => ?_)
      refine T_ret rfl (fun _ => rfl) ?_
      exact ⟨(mO m194 [] []), Tm194, (fr_m (fr_s Fm194 (fr_m fr_0 rfl rfl) rfl rfl) rfl rfl), (show (m194.1 10) = 0 → (m.1 10) = 0 by omega), (show LxP (m194.1 7) (m194.1 8) (m194.1 9) (m.1 6) (m194.1 10) by first | (first | exact hLx | exact (fun _ => hLx (by omega)) | (intro h9; exfalso; omega)) | (exfalso; omega)), (show ∀ k, (m194.2 14) k + (m194.2 15) k ≤ 4000 by rewrite [(show (m194.2 14) = (m.2 14) from (fr2 Fm194 14 rfl)), (show (m194.2 15) = (m.2 15) from (fr2 Fm194 15 rfl))]; first | (first | exact hNM | (intro k; rw [hE1, hE2]; have := hNM k; have h7 := hLx0 hf0; unfold upI; split <;> omega)) | (exfalso; omega)), (fun (h : (m194.1 10) = 0) => absurd h (by omega)), rfl⟩
    refine T_ld 1 (.ref 189) rfl (fun _ => rfl) ?_
    refine T_call 4 212 [.ref 189] [] rfl (fun _ => rfl) rfl (d_next w (mO m [] []) c N D (by omega) hT (show (m.1 10) = 0 → (m.1 8) + (m.1 9) ≤ (m.1 6) by first | omega | (intro h9; have h8 := hLx h9; omega))) (fun rr207 k208 => ?_)
    obtain ⟨m209, Tm209, Fm209, h210, h211, h212, h213, rfl⟩ := k208
    refine ⟨_, _, rfl, ?_⟩
    refine T_nb (st' := []) rfl ?_
    have g214 : 0 ≤ m209.1 7 ∧ m209.1 7 ≤ 330 := Tm209.1 7
    have g215 : 0 ≤ m209.1 8 ∧ m209.1 8 ≤ 4000 := Tm209.1 8
    have g216 : 0 ≤ m209.1 9 ∧ m209.1 9 ≤ 4000 := Tm209.1 9
    have g217 : 0 ≤ m209.1 10 ∧ m209.1 10 ≤ 8 := Tm209.1 10
    have g218 : (-1) ≤ m209.1 11 ∧ m209.1 11 ≤ 4000 := Tm209.1 11
    by_cases hf219 : (m209.1 10) = 0
    · skip
      replace h210 : LxP (m209.1 7) (m209.1 8) (m209.1 9) (m.1 6) (m209.1 10) := h210
      have hLx := h210
      replace h211 : (m.1 10) = 0 := h211 hf219
      replace h212 : (m.1 8) ≤ (m209.1 8) := h212
      replace h213 : (m.1 8) + (m.1 9) ≤ (m209.1 8) := h213 hf219
      have u220 : (m.1 8) + 1 ≤ (m209.1 8) := by omega
      have u221 : (m.1 8) + 1 ≤ (m209.1 8) := by omega
      have u222 : (m.1 23) ≤ (m.1 23) := by omega
      have u223 : (m.1 28) ≤ (m.1 28) := by omega
      refine T_gf 8 (.int (i32 (m209.1 10))) rfl rfl rfl rfl rfl rfl ?_
      refine T_if 12 11 rfl rfl rfl (r32 (by omega) (by omega)) (fun (h224 : (m209.1 10) ≤ 0) => ?_) (fun (h224 : ¬ ((m209.1 10) ≤ 0)) => by exfalso; omega)
      refine T_gf 16 (.int (i32 (m209.1 7))) rfl rfl rfl rfl rfl rfl ?_
      refine T_ld 17 (.int (i32 1)) rfl (fun _ => rfl) ?_
      refine T_icmp 25 20 rfl rfl rfl (r32 (by omega) (by omega)) ⟨by decide, by decide⟩ (fun (h225 : (m209.1 7) = 1) => ?_) (fun (h225 : ¬ ((m209.1 7) = 1)) => ?_)
      · skip
        have hLx1 := hLx (by omega)
        refine T_ld 26 (.ref 189) rfl (fun _ => rfl) ?_
        refine T_call 29 227 [.ref 189] [] rfl (fun _ => rfl) rfl (d_sortHere w (mO m209 [] []) c N D (by omega) Tm209 (show 1 ≤ (m209.1 9) ∧ (m209.1 8) + (m209.1 9) ≤ (m209.1 6) by rewrite [(show (m209.1 6) = (m.1 6) from (fr1 Fm209 6 rfl))]; first | omega | (have h8 := hLx (by omega); omega)) (show ∀ k, (m209.2 14) k + (m209.2 15) k ≤ 4000 by rewrite [(show (m209.2 14) = (m.2 14) from (fr2 Fm209 14 rfl)), (show (m209.2 15) = (m.2 15) from (fr2 Fm209 15 rfl))]; first | exact hNM | exact p1)) (fun rr226 k227 => ?_)
        obtain ⟨so, g228, h229, h230, rfl⟩ := k227
        refine ⟨_, _, rfl, ?_⟩
        refine T_ns (st' := [.int (i32 so)]) rfl ?_
        obtain ⟨g228a, g228b⟩ := g228
        replace h229 : ∃ g k, isGH (m209.2 4) (m209.1 8) (m209.1 9) g ∧ (g < 0 → isFH (m209.2 4) (m209.2 14) (m209.2 15) (m209.1 8) (m209.1 9) (m209.1 13) k) ∧ so = sortV (m209.2 16) g k := h229
        rewrite [(show (m209.2 4) = (m.2 4) from (fr2 Fm209 4 rfl)), (show (m209.2 14) = (m.2 14) from (fr2 Fm209 14 rfl)), (show (m209.2 15) = (m.2 15) from (fr2 Fm209 15 rfl)), (show (m209.1 13) = (m.1 13) from (fr1 Fm209 13 rfl)), (show (m209.2 16) = (m.2 16) from (fr2 Fm209 16 rfl))] at h229
        have hSo := h229
        replace h230 : -1 ≤ so ∧ so ≤ 7 := h230
        have u231 : (m.1 8) + 1 ≤ (m209.1 8) := by omega
        have u232 : (m.1 8) + 1 ≤ (m209.1 8) := by omega
        have u233 : (m.1 23) ≤ (m.1 23) := by omega
        have u234 : (m.1 28) ≤ (m.1 28) := by omega
        refine T_sto 30 [(1, .int (i32 so)), (0, .ref 189)] rfl (fun _ => rfl) ?_
        refine T_gf 34 (.int (i32 (m.1 23))) rfl rfl rfl rfl (mfv_c (F := fun x => .int (i32 x)) rfl (show (m209.1 23) = (m.1 23) from (fr1 Fm209 23 rfl))) rfl ?_
        refine T_sto 35 [(2, .int (i32 (m.1 23))), (1, .int (i32 so)), (0, .ref 189)] rfl (fun _ => rfl) ?_
        have J179_237 : ∀ (v235 : Int) (m236 : mR), (R32 v235) → Ty m236 → fr [10, 11, 13, 23] [14, 15, 16, 17, 37] (mO m209 [] []) m236 → ((m236.1 10) = 0) → (∀ k, (m236.2 14) k + (m236.2 15) k ≤ 4000) → (SOp (upI (m.2 38) v235 (m.1 24)) (m236.1 23) ((m.1 24) + 1)) → (PN (m236.1 13) (m.1 19) (m.1 20) (m.1 21) (m.1 22) (m236.1 23) (m.1 25) (m.1 26) (m236.2 16) (m236.2 17)) → (0 ≤ v235 ∧ v235 ≤ 15) → ((m.1 24) ≤ 15) → ((m.1 23) ≤ (m236.1 23)) → TT w D pm_240 (179, [(0, .ref 189), (1, .int (i32 so)), (2, .int (i32 v235))], [], (mhp (mO m236 [] []) c, N), 0, 0) (Q_takeState m c N) := by
          intro v235 m236 q245 Tm236 Fm236 ic238 ic239 ic240 ic241 ic242 ic243 ic244
          obtain ⟨q245a, q245b⟩ := id q245
          have q246_10 : 0 ≤ m236.1 10 ∧ m236.1 10 ≤ 8 := Tm236.1 10
          have q246_11 : (-1) ≤ m236.1 11 ∧ m236.1 11 ≤ 4000 := Tm236.1 11
          have q246_13 : 0 ≤ m236.1 13 ∧ m236.1 13 ≤ 120 := Tm236.1 13
          have q246_23 : 0 ≤ m236.1 23 ∧ m236.1 23 ≤ 16 := Tm236.1 23
          have hNM := ic239
          have pSO1 := ic240
          have pPN1 := ic241
          refine T_gf 183 (.int (i32 (m.1 24))) rfl rfl rfl rfl (mfv_c (F := fun x => .int (i32 x)) rfl (show (m236.1 24) = (m.1 24) from ((fr1 Fm236 24 rfl).trans (fr1 Fm209 24 rfl)))) rfl ?_
          refine T_sto 184 [(3, .int (i32 (m.1 24))), (0, .ref 189), (1, .int (i32 so)), (2, .int (i32 v235))] rfl (fun _ => rfl) ?_
          refine T_ld 185 (.ref 189) rfl (fun _ => rfl) ?_
          refine T_ld 186 (.ref 189) rfl (fun _ => rfl) ?_
          refine T_gf1 189 (.int (i32 (m.1 24))) rfl rfl (mfv_c (F := fun x => .int (i32 x)) rfl (show (m236.1 24) = (m.1 24) from ((fr1 Fm236 24 rfl).trans (fr1 Fm209 24 rfl)))) rfl ?_
          refine T_ld 190 (.int (i32 1)) rfl (fun _ => rfl) ?_
          refine T_iadd 191 rfl rfl ?_
          refine T_pf (l' := [(24, (m.1 24) + 1)]) 194 ((m.1 24) + 1) rfl rfl rfl rfl rfl rfl ?_
          have g248 : 0 ≤ (m.1 24) + 1 ∧ (m.1 24) + 1 ≤ 16 := ⟨by omega, by omega⟩
          refine T_gf 198 (.ref 208) rfl rfl rfl rfl rfl rfl ?_
          refine T_ld 199 (.int (i32 v235)) rfl (fun _ => rfl) ?_
          refine T_ld 200 (.int (i32 (m.1 24))) rfl (fun _ => rfl) ?_
          have G249 : ∀ j, (-1) ≤ (upI (m.2 38) v235 (m.1 24)) j ∧ (upI (m.2 38) v235 (m.1 24)) j ≤ 15 := upI_rg (hT.2.1 38) ⟨by omega, by omega⟩
          refine T_iast (a' := [(38, upI (m.2 38) v235 (m.1 24))]) 201 38 (m.2 38) rfl rfl rfl (by omega) (show v235 < (16 : Int) by omega) (show (m236.2 38) = (m.2 38) from ((fr2 Fm236 38 rfl).trans (fr2 Fm209 38 rfl))) rfl ?_
          refine T_gf 205 (.ref 209) rfl rfl rfl rfl rfl rfl ?_
          refine T_ld 206 (.int (i32 (m.1 24))) rfl (fun _ => rfl) ?_
          refine T_ld 207 (.int (i32 v235)) rfl (fun _ => rfl) ?_
          have G250 : ∀ j, 0 ≤ (upI (m.2 39) (m.1 24) v235) j ∧ (upI (m.2 39) (m.1 24) v235) j ≤ 15 := upI_rg (hT.2.1 39) ⟨by omega, by omega⟩
          refine T_iast (a' := [(38, upI (m.2 38) v235 (m.1 24)), (39, upI (m.2 39) (m.1 24) v235)]) 208 39 (m.2 39) rfl rfl rfl (by omega) (show (m.1 24) < (16 : Int) by omega) (show (m236.2 39) = (m.2 39) from ((fr2 Fm236 39 rfl).trans (fr2 Fm209 39 rfl))) rfl ?_
          refine T_gf 212 (.ref 210) rfl rfl rfl rfl rfl rfl ?_
          refine T_ld 213 (.int (i32 (m.1 24))) rfl (fun _ => rfl) ?_
          refine T_gf 217 (.int (i32 (m209.1 8))) rfl rfl rfl rfl (mfv_c (F := fun x => .int (i32 x)) rfl (show (m236.1 8) = (m209.1 8) from (fr1 Fm236 8 rfl))) rfl ?_
          have G251 : ∀ j, 0 ≤ (upI (m.2 40) (m.1 24) (m209.1 8)) j ∧ (upI (m.2 40) (m.1 24) (m209.1 8)) j ≤ 4000 := upI_rg (hT.2.1 40) ⟨by omega, by omega⟩
          refine T_iast (a' := [(38, upI (m.2 38) v235 (m.1 24)), (39, upI (m.2 39) (m.1 24) v235), (40, upI (m.2 40) (m.1 24) (m209.1 8))]) 218 40 (m.2 40) rfl rfl rfl (by omega) (show (m.1 24) < (16 : Int) by omega) (show (m236.2 40) = (m.2 40) from ((fr2 Fm236 40 rfl).trans (fr2 Fm209 40 rfl))) rfl ?_
          refine T_gf 222 (.ref 211) rfl rfl rfl rfl rfl rfl ?_
          refine T_ld 223 (.int (i32 (m.1 24))) rfl (fun _ => rfl) ?_
          refine T_ld 224 (.int (i32 0)) rfl (fun _ => rfl) ?_
          have G252 : ∀ j, 0 ≤ (upI (m.2 41) (m.1 24) 0) j ∧ (upI (m.2 41) (m.1 24) 0) j ≤ 6 := upI_rg (hT.2.1 41) ⟨by omega, by omega⟩
          refine T_iast (a' := [(38, upI (m.2 38) v235 (m.1 24)), (39, upI (m.2 39) (m.1 24) v235), (40, upI (m.2 40) (m.1 24) (m209.1 8)), (41, upI (m.2 41) (m.1 24) 0)]) 225 41 (m.2 41) rfl rfl rfl (by omega) (show (m.1 24) < (16 : Int) by omega) (show (m236.2 41) = (m.2 41) from ((fr2 Fm236 41 rfl).trans (fr2 Fm209 41 rfl))) rfl ?_
          refine T_gf 229 (.ref 212) rfl rfl rfl rfl rfl rfl ?_
          refine T_ld 230 (.int (i32 (m.1 24))) rfl (fun _ => rfl) ?_
          refine T_ld 231 (.int (i32 0)) rfl (fun _ => rfl) ?_
          have G253 : ∀ j, 0 ≤ (upI (m.2 42) (m.1 24) 0) j ∧ (upI (m.2 42) (m.1 24) 0) j ≤ 8 := upI_rg (hT.2.1 42) ⟨by omega, by omega⟩
          refine T_iast (a' := [(38, upI (m.2 38) v235 (m.1 24)), (39, upI (m.2 39) (m.1 24) v235), (40, upI (m.2 40) (m.1 24) (m209.1 8)), (41, upI (m.2 41) (m.1 24) 0), (42, upI (m.2 42) (m.1 24) 0)]) 232 42 (m.2 42) rfl rfl rfl (by omega) (show (m.1 24) < (16 : Int) by omega) (show (m236.2 42) = (m.2 42) from ((fr2 Fm236 42 rfl).trans (fr2 Fm209 42 rfl))) rfl ?_
          refine T_gf 236 (.ref 213) rfl rfl rfl rfl rfl rfl ?_
          refine T_ld 237 (.int (i32 (m.1 24))) rfl (fun _ => rfl) ?_
          refine T_ld 238 (.int (i32 0)) rfl (fun _ => rfl) ?_
          have G254 : ∀ j, 0 ≤ (upI (m.2 43) (m.1 24) 0) j ∧ (upI (m.2 43) (m.1 24) 0) j ≤ 1024 := upI_rg (hT.2.1 43) ⟨by omega, by omega⟩
          refine T_iast (a' := [(38, upI (m.2 38) v235 (m.1 24)), (39, upI (m.2 39) (m.1 24) v235), (40, upI (m.2 40) (m.1 24) (m209.1 8)), (41, upI (m.2 41) (m.1 24) 0), (42, upI (m.2 42) (m.1 24) 0), (43, upI (m.2 43) (m.1 24) 0)]) 239 43 (m.2 43) rfl rfl rfl (by omega) (show (m.1 24) < (16 : Int) by omega) (show (m236.2 43) = (m.2 43) from ((fr2 Fm236 43 rfl).trans (fr2 Fm209 43 rfl))) rfl ?_
          refine T_ld 240 (.ref 189) rfl (fun _ => rfl) ?_
          have pSO := pSO1
          have pPN := pPN1
          refine T_call 243 212 [.ref 189] [] rfl (fun _ => rfl) rfl (d_next w (mO m236 [(24, (m.1 24) + 1)] [(38, upI (m.2 38) v235 (m.1 24)), (39, upI (m.2 39) (m.1 24) v235), (40, upI (m.2 40) (m.1 24) (m209.1 8)), (41, upI (m.2 41) (m.1 24) 0), (42, upI (m.2 42) (m.1 24) 0), (43, upI (m.2 43) (m.1 24) 0)]) c N D (by omega) (Ty_mO Tm236 rfl rfl ⟨g248, trivial⟩ ⟨G249, G250, G251, G252, G253, G254, trivial⟩) (show (m236.1 10) = 0 → (m236.1 8) + (m236.1 9) ≤ (m236.1 6) by rewrite [(show (m236.1 8) = (m209.1 8) from (fr1 Fm236 8 rfl)), (show (m236.1 9) = (m209.1 9) from (fr1 Fm236 9 rfl)), (show (m236.1 6) = (m.1 6) from ((fr1 Fm236 6 rfl).trans (fr1 Fm209 6 rfl)))]; first | omega | (intro h9; have h8 := hLx h9; omega))) (fun rr255 k256 => ?_)
          obtain ⟨m257, Tm257, Fm257, h258, h259, h260, h261, rfl⟩ := k256
          refine ⟨_, _, rfl, ?_⟩
          refine T_nb (st' := []) rfl ?_
          have g262 : 0 ≤ m257.1 7 ∧ m257.1 7 ≤ 330 := Tm257.1 7
          have g263 : 0 ≤ m257.1 8 ∧ m257.1 8 ≤ 4000 := Tm257.1 8
          have g264 : 0 ≤ m257.1 9 ∧ m257.1 9 ≤ 4000 := Tm257.1 9
          have g265 : 0 ≤ m257.1 10 ∧ m257.1 10 ≤ 8 := Tm257.1 10
          have g266 : (-1) ≤ m257.1 11 ∧ m257.1 11 ≤ 4000 := Tm257.1 11
          by_cases hf267 : (m257.1 10) = 0
          · skip
            replace h258 : LxP (m257.1 7) (m257.1 8) (m257.1 9) (m236.1 6) (m257.1 10) := h258
            rewrite [(show (m236.1 6) = (m.1 6) from ((fr1 Fm236 6 rfl).trans (fr1 Fm209 6 rfl)))] at h258
            have hLx := h258
            replace h259 : (m236.1 10) = 0 := h259 hf267
            replace h260 : (m236.1 8) ≤ (m257.1 8) := h260
            rewrite [(show (m236.1 8) = (m209.1 8) from (fr1 Fm236 8 rfl))] at h260
            replace h261 : (m236.1 8) + (m236.1 9) ≤ (m257.1 8) := h261 hf267
            rewrite [(show (m236.1 8) = (m209.1 8) from (fr1 Fm236 8 rfl)), (show (m236.1 9) = (m209.1 9) from (fr1 Fm236 9 rfl))] at h261
            have u268 : (m.1 8) + 1 ≤ (m257.1 8) := by omega
            have u269 : (m.1 8) + 1 ≤ (m257.1 8) := by omega
            have u270 : (m.1 23) ≤ (m236.1 23) := by omega
            have u271 : (m.1 28) ≤ (m.1 28) := by omega
            clear g214 g216 g217 g218 h210 h224 h225 h229 q246_10 q246_11 ic238 h259 h261
            refine T_ld 244 (.ref 189) rfl (fun _ => rfl) ?_
            refine T_ld 246 (.int (i32 123)) rfl (fun _ => rfl) ?_
            refine T_call 249 232 [.ref 189, .int (i32 123)] [] rfl (fun _ => rfl) rfl (d_need w (mO m257 [] []) c N D (by omega) Tm257 123 ⟨by decide, by decide⟩ (show 1 ≤ (123 : Int) by omega) (show LxP (m257.1 7) (m257.1 8) (m257.1 9) (m257.1 6) (m257.1 10) by rewrite [(show (m257.1 6) = (m.1 6) from ((fr1 Fm257 6 rfl).trans ((fr1 Fm236 6 rfl).trans (fr1 Fm209 6 rfl))))]; first | exact hLx | (intro h9; exfalso; omega) | (intro h9; have h8 := hLx (by omega); omega))) (fun rr272 k273 => ?_)
            obtain ⟨m274, Tm274, Fm274, h275, h276, h277, h278, rfl⟩ := k273
            refine ⟨_, _, rfl, ?_⟩
            refine T_nb (st' := []) rfl ?_
            have g279 : 0 ≤ m274.1 7 ∧ m274.1 7 ≤ 330 := Tm274.1 7
            have g280 : 0 ≤ m274.1 8 ∧ m274.1 8 ≤ 4000 := Tm274.1 8
            have g281 : 0 ≤ m274.1 9 ∧ m274.1 9 ≤ 4000 := Tm274.1 9
            have g282 : 0 ≤ m274.1 10 ∧ m274.1 10 ≤ 8 := Tm274.1 10
            have g283 : (-1) ≤ m274.1 11 ∧ m274.1 11 ≤ 4000 := Tm274.1 11
            by_cases hf284 : (m274.1 10) = 0
            · skip
              replace h275 : LxP (m274.1 7) (m274.1 8) (m274.1 9) (m257.1 6) (m274.1 10) := h275
              rewrite [(show (m257.1 6) = (m.1 6) from ((fr1 Fm257 6 rfl).trans ((fr1 Fm236 6 rfl).trans (fr1 Fm209 6 rfl))))] at h275
              have hLx := h275
              replace h276 : (m257.1 10) = 0 ∧ (m257.1 7) = (123 : Int) := h276 hf284
              replace h277 : (m257.1 8) ≤ (m274.1 8) := h277
              replace h278 : (m257.1 8) + (m257.1 9) ≤ (m274.1 8) := h278 hf284
              have u285 : (m.1 8) + 1 ≤ (m274.1 8) := by omega
              have u286 : (m.1 8) + 1 ≤ (m274.1 8) := by omega
              have u287 : (m.1 23) ≤ (m236.1 23) := by omega
              have u288 : (m.1 28) ≤ (m.1 28) := by omega
              clear g262 g263 g264 g265 g266 h258 h260 u268 u269 h276 h277 h278
              have L249_290 : ∀ (n : Nat) (m289 : mR), Ty m289 → fr [7, 8, 9, 10, 11, 12] [41, 94] (mO m274 [] []) m289 → (LxP (m289.1 7) (m289.1 8) (m289.1 9) (m.1 6) (m289.1 10)) → ((m289.1 10) = 0 → ((m.1 8) + 1 ≤ (m289.1 8))) → 1000000 * (8 - (m289.1 10)) + (4000 - (m289.1 8)) < (n : Int) → TT w D pm_240 (249, [(0, .ref 189), (1, .int (i32 so)), (2, .int (i32 v235)), (3, .int (i32 (m.1 24)))], [], (mhp (mO m289 [] []) c, N), 0, 0) (Q_takeState m c N) := by
                intro n
                induction n with
                | zero =>
                  intro m289 Tm289 Fm289 ic291 c293 hmu
                  have q292_7 : 0 ≤ m289.1 7 ∧ m289.1 7 ≤ 330 := Tm289.1 7
                  have q292_8 : 0 ≤ m289.1 8 ∧ m289.1 8 ≤ 4000 := Tm289.1 8
                  have q292_9 : 0 ≤ m289.1 9 ∧ m289.1 9 ≤ 4000 := Tm289.1 9
                  have q292_10 : 0 ≤ m289.1 10 ∧ m289.1 10 ≤ 8 := Tm289.1 10
                  have q292_11 : (-1) ≤ m289.1 11 ∧ m289.1 11 ≤ 4000 := Tm289.1 11
                  have hLx := ic291
                  exfalso
                  omega
                | succ n ih =>
                  intro m289 Tm289 Fm289 ic291 c293 hmu
                  have q292_7 : 0 ≤ m289.1 7 ∧ m289.1 7 ≤ 330 := Tm289.1 7
                  have q292_8 : 0 ≤ m289.1 8 ∧ m289.1 8 ≤ 4000 := Tm289.1 8
                  have q292_9 : 0 ≤ m289.1 9 ∧ m289.1 9 ≤ 4000 := Tm289.1 9
                  have q292_10 : 0 ≤ m289.1 10 ∧ m289.1 10 ≤ 8 := Tm289.1 10
                  have q292_11 : (-1) ≤ m289.1 11 ∧ m289.1 11 ≤ 4000 := Tm289.1 11
                  have hLx := ic291
                  have ih294 := ih
                  by_cases hf295 : (m289.1 10) = 0
                  · skip
                    have c296 := c293 hf295
                    clear c293
                    refine T_gf 253 (.int (i32 (m289.1 10))) rfl rfl rfl rfl rfl rfl ?_
                    refine T_if 274 256 rfl rfl rfl (r32 (by omega) (by omega)) (fun (h297 : (m289.1 10) ≠ 0) => by exfalso; omega) (fun (h297 : ¬ ((m289.1 10) ≠ 0)) => ?_)
                    refine T_gf 260 (.int (i32 (m289.1 7))) rfl rfl rfl rfl rfl rfl ?_
                    refine T_ld 263 (.int (i32 305)) rfl (fun _ => rfl) ?_
                    refine T_icmp 274 266 rfl rfl rfl (r32 (by omega) (by omega)) ⟨by decide, by decide⟩ (fun (h298 : (m289.1 7) ≠ 305) => ?_) (fun (h298 : ¬ ((m289.1 7) ≠ 305)) => ?_)
                    · skip
                      refine T_gf 278 (.int (i32 (m289.1 10))) rfl rfl rfl rfl rfl rfl ?_
                      refine T_if 282 281 rfl rfl rfl (r32 (by omega) (by omega)) (fun (h299 : (m289.1 10) ≤ 0) => ?_) (fun (h299 : ¬ ((m289.1 10) ≤ 0)) => by exfalso; omega)
                      refine T_gf 286 (.int (i32 (m289.1 7))) rfl rfl rfl rfl rfl rfl ?_
                      refine T_ld 289 (.int (i32 306)) rfl (fun _ => rfl) ?_
                      refine T_icmp 315 292 rfl rfl rfl (r32 (by omega) (by omega)) ⟨by decide, by decide⟩ (fun (h300 : (m289.1 7) ≠ 306) => ?_) (fun (h300 : ¬ ((m289.1 7) ≠ 306)) => ?_)
                      · skip
                        refine T_gf 319 (.int (i32 (m289.1 7))) rfl rfl rfl rfl rfl rfl ?_
                        refine T_ld 322 (.int (i32 307)) rfl (fun _ => rfl) ?_
                        refine T_icmp 333 325 rfl rfl rfl (r32 (by omega) (by omega)) ⟨by decide, by decide⟩ (fun (h301 : (m289.1 7) ≠ 307) => ?_) (fun (h301 : ¬ ((m289.1 7) ≠ 307)) => ?_)
                        · skip
                          refine T_ld 334 (.ref 189) rfl (fun _ => rfl) ?_
                          refine T_call 337 226 [.ref 189] [] rfl (fun _ => rfl) rfl (d_bad w (mO m289 [] []) c N D (by omega) Tm289 ) (fun rr302 k303 => ?_)
                          obtain ⟨m304, Tm304, Fm304, h305, rfl⟩ := k303
                          refine ⟨_, _, rfl, ?_⟩
                          refine T_nb (st' := []) rfl ?_
                          have g306 : 0 ≤ m304.1 10 ∧ m304.1 10 ≤ 8 := Tm304.1 10
                          have g307 : (-1) ≤ m304.1 11 ∧ m304.1 11 ≤ 4000 := Tm304.1 11
                          replace h305 : (0 < (m289.1 10) → (m304.1 10) = (m289.1 10) ∧ (m304.1 11) = (m289.1 11)) ∧ ((m289.1 10) ≤ 0 → (m304.1 10) = 1 ∧ (m304.1 11) = (m289.1 8)) := h305
                          have hf308 : 1 ≤ (m304.1 10) := by omega
                          clear g279 g280 g281 g282 g283 h275 u285 u286 q292_11 h305
                          refine Tm_lv (a := [(0, .ref 189)]) rfl rfl ⟨rfl, trivial⟩ ?_
                          exact J337_29 (mO m304 [] []) Tm304 (fr_m (fr_s Fm304 (fr_m (fr_s Fm289 (fr_m (fr_s Fm274 (fr_m (fr_s Fm257 (fr_m (fr_s Fm236 (fr_m (fr_s Fm209 (fr_m fr_0 rfl rfl) rfl rfl) rfl rfl) rfl rfl) rfl rfl) rfl rfl) rfl rfl) rfl rfl) rfl rfl) rfl rfl) rfl rfl) rfl rfl) rfl rfl) (show ∀ k, (m304.2 14) k + (m304.2 15) k ≤ 4000 by rewrite [(show (m304.2 14) = (m236.2 14) from ((fr2 Fm304 14 rfl).trans ((fr2 Fm289 14 rfl).trans ((fr2 Fm274 14 rfl).trans (fr2 Fm257 14 rfl))))), (show (m304.2 15) = (m236.2 15) from ((fr2 Fm304 15 rfl).trans ((fr2 Fm289 15 rfl).trans ((fr2 Fm274 15 rfl).trans (fr2 Fm257 15 rfl)))))]; first | exact hNM | (intro k; rw [hE1, hE2]; have := hNM0 k; have h7 := hLx1; unfold upI; split <;> omega)) (show (m.1 24) ≤ 15 by omega) (show 1 ≤ (m304.1 10) by omega)
                        · skip
                          refine T_ld 326 (.ref 189) rfl (fun _ => rfl) ?_
                          refine T_ld 327 (.int (i32 (m.1 24))) rfl (fun _ => rfl) ?_
                          refine T_call 330 243 [.ref 189, .int (i32 (m.1 24))] [] rfl (fun _ => rfl) rfl (c_takeSelect w (mO m289 [] []) c N D (by omega) Tm289 (m.1 24) (r32 (by omega) (by omega)) (show LxP (m289.1 7) (m289.1 8) (m289.1 9) (m289.1 6) (m289.1 10) by rewrite [(show (m289.1 6) = (m.1 6) from ((fr1 Fm289 6 rfl).trans ((fr1 Fm274 6 rfl).trans ((fr1 Fm257 6 rfl).trans ((fr1 Fm236 6 rfl).trans (fr1 Fm209 6 rfl))))))]; first | exact hLx | exact (fun _ => hLx (by omega)) | (intro h9; exfalso; omega)) (show ∀ k, (m289.2 14) k + (m289.2 15) k ≤ 4000 by rewrite [(show (m289.2 14) = (m236.2 14) from ((fr2 Fm289 14 rfl).trans ((fr2 Fm274 14 rfl).trans (fr2 Fm257 14 rfl)))), (show (m289.2 15) = (m236.2 15) from ((fr2 Fm289 15 rfl).trans ((fr2 Fm274 15 rfl).trans (fr2 Fm257 15 rfl))))]; assumption) (show ∀ k, (m289.2 31) k + (m289.2 32) k ≤ 4000 by rewrite [(show (m289.2 31) = (m.2 31) from ((fr2 Fm289 31 rfl).trans ((fr2 Fm274 31 rfl).trans ((fr2 Fm257 31 rfl).trans ((fr2 Fm236 31 rfl).trans (fr2 Fm209 31 rfl)))))), (show (m289.2 32) = (m.2 32) from ((fr2 Fm289 32 rfl).trans ((fr2 Fm274 32 rfl).trans ((fr2 Fm257 32 rfl).trans ((fr2 Fm236 32 rfl).trans (fr2 Fm209 32 rfl))))))]; assumption) (show ∀ k, (m289.2 47) k + (m289.2 48) k ≤ 4000 by rewrite [(show (m289.2 47) = (m.2 47) from ((fr2 Fm289 47 rfl).trans ((fr2 Fm274 47 rfl).trans ((fr2 Fm257 47 rfl).trans ((fr2 Fm236 47 rfl).trans (fr2 Fm209 47 rfl)))))), (show (m289.2 48) = (m.2 48) from ((fr2 Fm289 48 rfl).trans ((fr2 Fm274 48 rfl).trans ((fr2 Fm257 48 rfl).trans ((fr2 Fm236 48 rfl).trans (fr2 Fm209 48 rfl))))))]; assumption) (show 0 ≤ (m.1 24) ∧ (m.1 24) ≤ 15 by omega) (fun _ => ⟨(show PN (m289.1 13) (m289.1 19) (m289.1 20) (m289.1 21) (m289.1 22) (m289.1 23) (m289.1 25) (m289.1 26) (m289.2 16) (m289.2 17) by rewrite [(show (m289.1 13) = (m236.1 13) from ((fr1 Fm289 13 rfl).trans ((fr1 Fm274 13 rfl).trans (fr1 Fm257 13 rfl)))), (show (m289.1 19) = (m.1 19) from ((fr1 Fm289 19 rfl).trans ((fr1 Fm274 19 rfl).trans ((fr1 Fm257 19 rfl).trans ((fr1 Fm236 19 rfl).trans (fr1 Fm209 19 rfl)))))), (show (m289.1 20) = (m.1 20) from ((fr1 Fm289 20 rfl).trans ((fr1 Fm274 20 rfl).trans ((fr1 Fm257 20 rfl).trans ((fr1 Fm236 20 rfl).trans (fr1 Fm209 20 rfl)))))), (show (m289.1 21) = (m.1 21) from ((fr1 Fm289 21 rfl).trans ((fr1 Fm274 21 rfl).trans ((fr1 Fm257 21 rfl).trans ((fr1 Fm236 21 rfl).trans (fr1 Fm209 21 rfl)))))), (show (m289.1 22) = (m.1 22) from ((fr1 Fm289 22 rfl).trans ((fr1 Fm274 22 rfl).trans ((fr1 Fm257 22 rfl).trans ((fr1 Fm236 22 rfl).trans (fr1 Fm209 22 rfl)))))), (show (m289.1 23) = (m236.1 23) from ((fr1 Fm289 23 rfl).trans ((fr1 Fm274 23 rfl).trans (fr1 Fm257 23 rfl)))), (show (m289.1 25) = (m.1 25) from ((fr1 Fm289 25 rfl).trans ((fr1 Fm274 25 rfl).trans ((fr1 Fm257 25 rfl).trans ((fr1 Fm236 25 rfl).trans (fr1 Fm209 25 rfl)))))), (show (m289.1 26) = (m.1 26) from ((fr1 Fm289 26 rfl).trans ((fr1 Fm274 26 rfl).trans ((fr1 Fm257 26 rfl).trans ((fr1 Fm236 26 rfl).trans (fr1 Fm209 26 rfl)))))), (show (m289.2 16) = (m236.2 16) from ((fr2 Fm289 16 rfl).trans ((fr2 Fm274 16 rfl).trans (fr2 Fm257 16 rfl)))), (show (m289.2 17) = (m236.2 17) from ((fr2 Fm289 17 rfl).trans ((fr2 Fm274 17 rfl).trans (fr2 Fm257 17 rfl))))]; assumption), (show CN (m289.2 65) (m289.2 67) (m289.1 28) by rewrite [(show (m289.2 65) = (m.2 65) from ((fr2 Fm289 65 rfl).trans ((fr2 Fm274 65 rfl).trans ((fr2 Fm257 65 rfl).trans ((fr2 Fm236 65 rfl).trans (fr2 Fm209 65 rfl)))))), (show (m289.2 67) = (m.2 67) from ((fr2 Fm289 67 rfl).trans ((fr2 Fm274 67 rfl).trans ((fr2 Fm257 67 rfl).trans ((fr2 Fm236 67 rfl).trans (fr2 Fm209 67 rfl)))))), (show (m289.1 28) = (m.1 28) from ((fr1 Fm289 28 rfl).trans ((fr1 Fm274 28 rfl).trans ((fr1 Fm257 28 rfl).trans ((fr1 Fm236 28 rfl).trans (fr1 Fm209 28 rfl))))))]; assumption), (show SOp (m289.2 38) (m289.1 23) (m289.1 24) by rewrite [(show (m289.2 38) = (upI (m.2 38) v235 (m.1 24)) from ((fr2 Fm289 38 rfl).trans ((fr2 Fm274 38 rfl).trans (fr2 Fm257 38 rfl)))), (show (m289.1 23) = (m236.1 23) from ((fr1 Fm289 23 rfl).trans ((fr1 Fm274 23 rfl).trans (fr1 Fm257 23 rfl)))), (show (m289.1 24) = ((m.1 24) + 1) from ((fr1 Fm289 24 rfl).trans ((fr1 Fm274 24 rfl).trans (fr1 Fm257 24 rfl))))]; first | exact pSO | assumption), (show (m289.2 42) (m.1 24) = 0 by rewrite [(show (m289.2 42) = (upI (m.2 42) (m.1 24) 0) from ((fr2 Fm289 42 rfl).trans ((fr2 Fm274 42 rfl).trans (fr2 Fm257 42 rfl))))]; first | omega | exact upI_s), (show (m289.1 7) ≠ 0 by omega)⟩)) (fun rr309 k310 => ?_)
                          obtain ⟨m311, Tm311, Fm311, h312, h313, h314, c315, rfl⟩ := k310
                          refine ⟨_, _, rfl, ?_⟩
                          refine T_nb (st' := []) rfl ?_
                          have g316 : 0 ≤ m311.1 7 ∧ m311.1 7 ≤ 330 := Tm311.1 7
                          have g317 : 0 ≤ m311.1 8 ∧ m311.1 8 ≤ 4000 := Tm311.1 8
                          have g318 : 0 ≤ m311.1 9 ∧ m311.1 9 ≤ 4000 := Tm311.1 9
                          have g319 : 0 ≤ m311.1 10 ∧ m311.1 10 ≤ 8 := Tm311.1 10
                          have g320 : (-1) ≤ m311.1 11 ∧ m311.1 11 ≤ 4000 := Tm311.1 11
                          have g321 : 0 ≤ m311.1 13 ∧ m311.1 13 ≤ 120 := Tm311.1 13
                          have g322 : 0 ≤ m311.1 23 ∧ m311.1 23 ≤ 16 := Tm311.1 23
                          have g323 : 0 ≤ m311.1 28 ∧ m311.1 28 ≤ 800 := Tm311.1 28
                          by_cases hf324 : (m311.1 10) = 0
                          · skip
                            replace h312 : (m289.1 10) = 0 := h312 hf324
                            replace h313 : LxP (m311.1 7) (m311.1 8) (m311.1 9) (m289.1 6) (m311.1 10) := h313
                            rewrite [(show (m289.1 6) = (m.1 6) from ((fr1 Fm289 6 rfl).trans ((fr1 Fm274 6 rfl).trans ((fr1 Fm257 6 rfl).trans ((fr1 Fm236 6 rfl).trans (fr1 Fm209 6 rfl))))))] at h313
                            have hLx := h313
                            replace h314 : ∀ k, (m311.2 14) k + (m311.2 15) k ≤ 4000 := h314
                            have hNM := h314
                            obtain ⟨c325, c326, c327, c328, c329, c330, c331, c332, c333, c334, c335, c336, c337⟩ := c315 hf324
                            replace c325 : (m289.1 8) + 1 ≤ (m311.1 8) := c325
                            replace c326 : PN (m311.1 13) (m289.1 19) (m289.1 20) (m289.1 21) (m289.1 22) (m311.1 23) (m289.1 25) (m289.1 26) (m311.2 16) (m311.2 17) := c326
                            rewrite [(show (m289.1 19) = (m.1 19) from ((fr1 Fm289 19 rfl).trans ((fr1 Fm274 19 rfl).trans ((fr1 Fm257 19 rfl).trans ((fr1 Fm236 19 rfl).trans (fr1 Fm209 19 rfl)))))), (show (m289.1 20) = (m.1 20) from ((fr1 Fm289 20 rfl).trans ((fr1 Fm274 20 rfl).trans ((fr1 Fm257 20 rfl).trans ((fr1 Fm236 20 rfl).trans (fr1 Fm209 20 rfl)))))), (show (m289.1 21) = (m.1 21) from ((fr1 Fm289 21 rfl).trans ((fr1 Fm274 21 rfl).trans ((fr1 Fm257 21 rfl).trans ((fr1 Fm236 21 rfl).trans (fr1 Fm209 21 rfl)))))), (show (m289.1 22) = (m.1 22) from ((fr1 Fm289 22 rfl).trans ((fr1 Fm274 22 rfl).trans ((fr1 Fm257 22 rfl).trans ((fr1 Fm236 22 rfl).trans (fr1 Fm209 22 rfl)))))), (show (m289.1 25) = (m.1 25) from ((fr1 Fm289 25 rfl).trans ((fr1 Fm274 25 rfl).trans ((fr1 Fm257 25 rfl).trans ((fr1 Fm236 25 rfl).trans (fr1 Fm209 25 rfl)))))), (show (m289.1 26) = (m.1 26) from ((fr1 Fm289 26 rfl).trans ((fr1 Fm274 26 rfl).trans ((fr1 Fm257 26 rfl).trans ((fr1 Fm236 26 rfl).trans (fr1 Fm209 26 rfl))))))] at c326
                            have pPN := c326
                            replace c327 : CN (m311.2 65) (m311.2 67) (m311.1 28) := c327
                            have hCN := c327
                            replace c328 : SOp (m311.2 38) (m311.1 23) (m289.1 24) := c328
                            rewrite [(show (m289.1 24) = ((m.1 24) + 1) from ((fr1 Fm289 24 rfl).trans ((fr1 Fm274 24 rfl).trans (fr1 Fm257 24 rfl))))] at c328
                            have pSO := c328
                            replace c329 : (m289.1 23) ≤ (m311.1 23) := c329
                            rewrite [(show (m289.1 23) = (m236.1 23) from ((fr1 Fm289 23 rfl).trans ((fr1 Fm274 23 rfl).trans (fr1 Fm257 23 rfl))))] at c329
                            replace c330 : (m289.1 28) ≤ (m311.1 28) := c330
                            rewrite [(show (m289.1 28) = (m.1 28) from ((fr1 Fm289 28 rfl).trans ((fr1 Fm274 28 rfl).trans ((fr1 Fm257 28 rfl).trans ((fr1 Fm236 28 rfl).trans (fr1 Fm209 28 rfl))))))] at c330
                            replace c331 : agr (m289.2 65) (m311.2 65) (m289.1 28) := c331
                            rewrite [(show (m289.2 65) = (m.2 65) from ((fr2 Fm289 65 rfl).trans ((fr2 Fm274 65 rfl).trans ((fr2 Fm257 65 rfl).trans ((fr2 Fm236 65 rfl).trans (fr2 Fm209 65 rfl)))))), (show (m289.1 28) = (m.1 28) from ((fr1 Fm289 28 rfl).trans ((fr1 Fm274 28 rfl).trans ((fr1 Fm257 28 rfl).trans ((fr1 Fm236 28 rfl).trans (fr1 Fm209 28 rfl))))))] at c331
                            have hAg := c331
                            replace c332 : agr (m289.2 42) (m311.2 42) (m.1 24) := c332
                            rewrite [(show (m289.2 42) = (upI (m.2 42) (m.1 24) 0) from ((fr2 Fm289 42 rfl).trans ((fr2 Fm274 42 rfl).trans (fr2 Fm257 42 rfl))))] at c332
                            have hB1 := c332
                            replace c333 : agr (m289.2 95) (m311.2 95) (m.1 24) := c333
                            rewrite [(show (m289.2 95) = (m.2 95) from ((fr2 Fm289 95 rfl).trans ((fr2 Fm274 95 rfl).trans ((fr2 Fm257 95 rfl).trans ((fr2 Fm236 95 rfl).trans (fr2 Fm209 95 rfl))))))] at c333
                            have hB2 := c333
                            replace c334 : agr (m289.2 96) (m311.2 96) (m.1 24) := c334
                            rewrite [(show (m289.2 96) = (m.2 96) from ((fr2 Fm289 96 rfl).trans ((fr2 Fm274 96 rfl).trans ((fr2 Fm257 96 rfl).trans ((fr2 Fm236 96 rfl).trans (fr2 Fm209 96 rfl))))))] at c334
                            have hB3 := c334
                            replace c335 : agr (m289.2 44) (m311.2 44) (m.1 24) := c335
                            rewrite [(show (m289.2 44) = (m.2 44) from ((fr2 Fm289 44 rfl).trans ((fr2 Fm274 44 rfl).trans ((fr2 Fm257 44 rfl).trans ((fr2 Fm236 44 rfl).trans (fr2 Fm209 44 rfl))))))] at c335
                            have hB4 := c335
                            replace c336 : agr (m289.2 45) (m311.2 45) (8 * (m.1 24)) := c336
                            rewrite [(show (m289.2 45) = (m.2 45) from ((fr2 Fm289 45 rfl).trans ((fr2 Fm274 45 rfl).trans ((fr2 Fm257 45 rfl).trans ((fr2 Fm236 45 rfl).trans (fr2 Fm209 45 rfl))))))] at c336
                            have hB5 := c336
                            replace c337 : StR (m311.2 65) (m311.1 28) (m311.1 23) (m.1 24) (m311.2 42) (m311.2 95) (m311.2 96) (m311.2 44) (m311.2 45) := c337
                            have hStR := c337
                            clear c315
                            have u338 : (m.1 8) + 1 ≤ (m311.1 8) := by omega
                            have u339 : (m.1 8) + 1 ≤ (m311.1 8) := by omega
                            have u340 : (m.1 23) ≤ (m311.1 23) := by omega
                            have u341 : (m.1 28) ≤ (m311.1 28) := by omega
                            clear q246_13 q246_23 ic239 ic240 ic241 ic244 u270 g279 g280 g281 g282 g283 h275 u285 u286 u287 q292_7 q292_9 q292_11 ic291 h298 h300 h301 c329
                            have hB1 : agr (m.2 42) (m311.2 42) (m.1 24) := agr_t (agr_u (Int.le_refl _)) hB1 (Int.le_refl _)
                            refine T_goto 337 rfl (fun _ => rfl) ?_
                            have hSt2 : StP (m311.2 65) (m311.1 28) (m311.1 23) ((m.1 24) + 1) (m311.2 42) (m311.2 95) (m311.2 96) (m311.2 44) (m311.2 45) := StP_add (StP_f pSt (by omega) (by omega) hAg hB1 hB2 hB3 hB4 hB5 (hT.2.1 42)) hStR
                            refine T_ld 338 (.ref 189) rfl (fun _ => rfl) ?_
                            refine T_ld 340 (.int (i32 125)) rfl (fun _ => rfl) ?_
                            refine T_call 343 232 [.ref 189, .int (i32 125)] [] rfl (fun _ => rfl) rfl (d_need w (mO m311 [] []) c N D (by omega) Tm311 125 ⟨by decide, by decide⟩ (show 1 ≤ (125 : Int) by omega) (show LxP (m311.1 7) (m311.1 8) (m311.1 9) (m311.1 6) (m311.1 10) by rewrite [(show (m311.1 6) = (m.1 6) from ((fr1 Fm311 6 rfl).trans ((fr1 Fm289 6 rfl).trans ((fr1 Fm274 6 rfl).trans ((fr1 Fm257 6 rfl).trans ((fr1 Fm236 6 rfl).trans (fr1 Fm209 6 rfl)))))))]; first | exact hLx | (intro h9; exfalso; omega) | (intro h9; have h8 := hLx (by omega); omega))) (fun rr342 k343 => ?_)
                            obtain ⟨m344, Tm344, Fm344, h345, h346, h347, h348, rfl⟩ := k343
                            refine ⟨_, _, rfl, ?_⟩
                            refine T_nb (st' := []) rfl ?_
                            have g349 : 0 ≤ m344.1 7 ∧ m344.1 7 ≤ 330 := Tm344.1 7
                            have g350 : 0 ≤ m344.1 8 ∧ m344.1 8 ≤ 4000 := Tm344.1 8
                            have g351 : 0 ≤ m344.1 9 ∧ m344.1 9 ≤ 4000 := Tm344.1 9
                            have g352 : 0 ≤ m344.1 10 ∧ m344.1 10 ≤ 8 := Tm344.1 10
                            have g353 : (-1) ≤ m344.1 11 ∧ m344.1 11 ≤ 4000 := Tm344.1 11
                            by_cases hf354 : (m344.1 10) = 0
                            · skip
                              replace h345 : LxP (m344.1 7) (m344.1 8) (m344.1 9) (m311.1 6) (m344.1 10) := h345
                              rewrite [(show (m311.1 6) = (m.1 6) from ((fr1 Fm311 6 rfl).trans ((fr1 Fm289 6 rfl).trans ((fr1 Fm274 6 rfl).trans ((fr1 Fm257 6 rfl).trans ((fr1 Fm236 6 rfl).trans (fr1 Fm209 6 rfl)))))))] at h345
                              have hLx := h345
                              replace h346 : (m311.1 10) = 0 ∧ (m311.1 7) = (125 : Int) := h346 hf354
                              replace h347 : (m311.1 8) ≤ (m344.1 8) := h347
                              replace h348 : (m311.1 8) + (m311.1 9) ≤ (m344.1 8) := h348 hf354
                              have u355 : (m.1 8) + 1 ≤ (m344.1 8) := by omega
                              have u356 : (m.1 8) + 1 ≤ (m344.1 8) := by omega
                              have u357 : (m.1 23) ≤ (m311.1 23) := by omega
                              have u358 : (m.1 28) ≤ (m311.1 28) := by omega
                              clear g316 g317 g318 g319 g320 h313 c325 u338 u339 h346 h347 h348
                              refine T_ret rfl (fun _ => rfl) ?_
                              exact ⟨(mO m344 [] []), Tm344, (fr_m (fr_s Fm344 (fr_m (fr_s Fm311 (fr_m (fr_s Fm289 (fr_m (fr_s Fm274 (fr_m (fr_s Fm257 (fr_m (fr_s Fm236 (fr_m (fr_s Fm209 (fr_m fr_0 rfl rfl) rfl rfl) rfl rfl) rfl rfl) rfl rfl) rfl rfl) rfl rfl) rfl rfl) rfl rfl) rfl rfl) rfl rfl) rfl rfl) rfl rfl) rfl rfl) rfl rfl), (show (m344.1 10) = 0 → (m.1 10) = 0 by omega), (show LxP (m344.1 7) (m344.1 8) (m344.1 9) (m.1 6) (m344.1 10) by first | (first | exact hLx | exact (fun _ => hLx (by omega)) | (intro h9; exfalso; omega)) | (exfalso; omega)), (show ∀ k, (m344.2 14) k + (m344.2 15) k ≤ 4000 by rewrite [(show (m344.2 14) = (m311.2 14) from (fr2 Fm344 14 rfl)), (show (m344.2 15) = (m311.2 15) from (fr2 Fm344 15 rfl))]; first | (first | exact hNM | (intro k; rw [hE1, hE2]; have := hNM k; have h7 := hLx0 hf0; unfold upI; split <;> omega)) | (exfalso; omega)), (fun _ => ⟨(show (m.1 8) + 1 ≤ (m344.1 8) by omega), (show PN (m344.1 13) (m.1 19) (m.1 20) (m.1 21) (m.1 22) (m344.1 23) (m.1 25) (m.1 26) (m344.2 16) (m344.2 17) by rewrite [(show (m344.1 13) = (m311.1 13) from (fr1 Fm344 13 rfl)), (show (m344.1 23) = (m311.1 23) from (fr1 Fm344 23 rfl)), (show (m344.2 16) = (m311.2 16) from (fr2 Fm344 16 rfl)), (show (m344.2 17) = (m311.2 17) from (fr2 Fm344 17 rfl))]; first | (exact pPN) | (exfalso; omega)), (show CN (m344.2 65) (m344.2 67) (m344.1 28) by rewrite [(show (m344.2 65) = (m311.2 65) from (fr2 Fm344 65 rfl)), (show (m344.2 67) = (m311.2 67) from (fr2 Fm344 67 rfl)), (show (m344.1 28) = (m311.1 28) from (fr1 Fm344 28 rfl))]; first | (exact hCN) | (exfalso; omega)), (show SOp (m344.2 38) (m344.1 23) (m344.1 24) by rewrite [(show (m344.2 38) = (m311.2 38) from (fr2 Fm344 38 rfl)), (show (m344.1 23) = (m311.1 23) from (fr1 Fm344 23 rfl)), (show (m344.1 24) = ((m.1 24) + 1) from ((fr1 Fm344 24 rfl).trans ((fr1 Fm311 24 rfl).trans ((fr1 Fm289 24 rfl).trans ((fr1 Fm274 24 rfl).trans (fr1 Fm257 24 rfl))))))]; first | (exact pSO) | (exfalso; omega)), (show (m.1 23) ≤ (m344.1 23) by rewrite [(show (m344.1 23) = (m311.1 23) from (fr1 Fm344 23 rfl))]; omega), (show (m.1 28) ≤ (m344.1 28) by rewrite [(show (m344.1 28) = (m311.1 28) from (fr1 Fm344 28 rfl))]; omega), (show agr (m.2 65) (m344.2 65) (m.1 28) by rewrite [(show (m344.2 65) = (m311.2 65) from (fr2 Fm344 65 rfl))]; first | (exact hAg) | (exfalso; omega)), (show StP (m344.2 65) (m344.1 28) (m344.1 23) (m344.1 24) (m344.2 42) (m344.2 95) (m344.2 96) (m344.2 44) (m344.2 45) by rewrite [(show (m344.2 65) = (m311.2 65) from (fr2 Fm344 65 rfl)), (show (m344.1 28) = (m311.1 28) from (fr1 Fm344 28 rfl)), (show (m344.1 23) = (m311.1 23) from (fr1 Fm344 23 rfl)), (show (m344.1 24) = ((m.1 24) + 1) from ((fr1 Fm344 24 rfl).trans ((fr1 Fm311 24 rfl).trans ((fr1 Fm289 24 rfl).trans ((fr1 Fm274 24 rfl).trans (fr1 Fm257 24 rfl)))))), (show (m344.2 42) = (m311.2 42) from (fr2 Fm344 42 rfl)), (show (m344.2 95) = (m311.2 95) from (fr2 Fm344 95 rfl)), (show (m344.2 96) = (m311.2 96) from (fr2 Fm344 96 rfl)), (show (m344.2 44) = (m311.2 44) from (fr2 Fm344 44 rfl)), (show (m344.2 45) = (m311.2 45) from (fr2 Fm344 45 rfl))]; first | (exact hSt2) | (exfalso; omega))⟩), rfl⟩
                            · skip
                              replace h345 : LxP (m344.1 7) (m344.1 8) (m344.1 9) (m311.1 6) (m344.1 10) := h345
                              rewrite [(show (m311.1 6) = (m.1 6) from ((fr1 Fm311 6 rfl).trans ((fr1 Fm289 6 rfl).trans ((fr1 Fm274 6 rfl).trans ((fr1 Fm257 6 rfl).trans ((fr1 Fm236 6 rfl).trans (fr1 Fm209 6 rfl)))))))] at h345
                              have hLx := h345
                              clear h346
                              replace h347 : (m311.1 8) ≤ (m344.1 8) := h347
                              clear h348
                              have hf359 : 1 ≤ (m344.1 10) := by omega
                              clear g316 g317 g318 g319 g320 h313 c325 u338 u339 h347
                              refine Tm_lv (a := [(0, .ref 189)]) rfl rfl ⟨rfl, trivial⟩ ?_
                              exact J343_22 (mO m344 [] []) Tm344 (fr_m (fr_s Fm344 (fr_m (fr_s Fm311 (fr_m (fr_s Fm289 (fr_m (fr_s Fm274 (fr_m (fr_s Fm257 (fr_m (fr_s Fm236 (fr_m (fr_s Fm209 (fr_m fr_0 rfl rfl) rfl rfl) rfl rfl) rfl rfl) rfl rfl) rfl rfl) rfl rfl) rfl rfl) rfl rfl) rfl rfl) rfl rfl) rfl rfl) rfl rfl) rfl rfl) rfl rfl) (show ∀ k, (m344.2 14) k + (m344.2 15) k ≤ 4000 by rewrite [(show (m344.2 14) = (m311.2 14) from (fr2 Fm344 14 rfl)), (show (m344.2 15) = (m311.2 15) from (fr2 Fm344 15 rfl))]; first | exact hNM | (intro k; rw [hE1, hE2]; have := hNM0 k; have h7 := hLx1; unfold upI; split <;> omega)) (show (m.1 24) ≤ 15 by omega) (show 1 ≤ (m344.1 10) by omega)
                          · skip
                            clear c315
                            clear h312
                            replace h313 : LxP (m311.1 7) (m311.1 8) (m311.1 9) (m289.1 6) (m311.1 10) := h313
                            rewrite [(show (m289.1 6) = (m.1 6) from ((fr1 Fm289 6 rfl).trans ((fr1 Fm274 6 rfl).trans ((fr1 Fm257 6 rfl).trans ((fr1 Fm236 6 rfl).trans (fr1 Fm209 6 rfl))))))] at h313
                            have hLx := h313
                            replace h314 : ∀ k, (m311.2 14) k + (m311.2 15) k ≤ 4000 := h314
                            have hNM := h314
                            have hf360 : 1 ≤ (m311.1 10) := by omega
                            clear q246_13 q246_23 ic239 ic240 ic241 ic244 u270 g279 g280 g281 g282 g283 h275 u285 u286 u287 q292_7 q292_9 q292_11 ic291 h298 h300 h301
                            refine Tm_lv (a := [(0, .ref 189)]) rfl rfl ⟨rfl, trivial⟩ ?_
                            exact J330_49 (mO m311 [] []) Tm311 (fr_m (fr_s Fm311 (fr_m (fr_s Fm289 (fr_m (fr_s Fm274 (fr_m (fr_s Fm257 (fr_m (fr_s Fm236 (fr_m (fr_s Fm209 (fr_m fr_0 rfl rfl) rfl rfl) rfl rfl) rfl rfl) rfl rfl) rfl rfl) rfl rfl) rfl rfl) rfl rfl) rfl rfl) rfl rfl) rfl rfl) rfl rfl) (show ∀ k, (m311.2 14) k + (m311.2 15) k ≤ 4000 by first | exact hNM | (intro k; rw [hE1, hE2]; have := hNM0 k; have h7 := hLx1; unfold upI; split <;> omega)) (show (m.1 24) ≤ 15 by omega) (show 1 ≤ (m311.1 10) by omega)
                      · skip
                        refine T_ld 293 (.ref 189) rfl (fun _ => rfl) ?_
                        refine T_call 296 212 [.ref 189] [] rfl (fun _ => rfl) rfl (d_next w (mO m289 [] []) c N D (by omega) Tm289 (show (m289.1 10) = 0 → (m289.1 8) + (m289.1 9) ≤ (m289.1 6) by rewrite [(show (m289.1 6) = (m.1 6) from ((fr1 Fm289 6 rfl).trans ((fr1 Fm274 6 rfl).trans ((fr1 Fm257 6 rfl).trans ((fr1 Fm236 6 rfl).trans (fr1 Fm209 6 rfl))))))]; first | omega | (intro h9; have h8 := hLx h9; omega))) (fun rr361 k362 => ?_)
                        obtain ⟨m363, Tm363, Fm363, h364, h365, h366, h367, rfl⟩ := k362
                        refine ⟨_, _, rfl, ?_⟩
                        refine T_nb (st' := []) rfl ?_
                        have g368 : 0 ≤ m363.1 7 ∧ m363.1 7 ≤ 330 := Tm363.1 7
                        have g369 : 0 ≤ m363.1 8 ∧ m363.1 8 ≤ 4000 := Tm363.1 8
                        have g370 : 0 ≤ m363.1 9 ∧ m363.1 9 ≤ 4000 := Tm363.1 9
                        have g371 : 0 ≤ m363.1 10 ∧ m363.1 10 ≤ 8 := Tm363.1 10
                        have g372 : (-1) ≤ m363.1 11 ∧ m363.1 11 ≤ 4000 := Tm363.1 11
                        by_cases hf373 : (m363.1 10) = 0
                        · skip
                          replace h364 : LxP (m363.1 7) (m363.1 8) (m363.1 9) (m289.1 6) (m363.1 10) := h364
                          rewrite [(show (m289.1 6) = (m.1 6) from ((fr1 Fm289 6 rfl).trans ((fr1 Fm274 6 rfl).trans ((fr1 Fm257 6 rfl).trans ((fr1 Fm236 6 rfl).trans (fr1 Fm209 6 rfl))))))] at h364
                          have hLx := h364
                          replace h365 : (m289.1 10) = 0 := h365 hf373
                          replace h366 : (m289.1 8) ≤ (m363.1 8) := h366
                          replace h367 : (m289.1 8) + (m289.1 9) ≤ (m363.1 8) := h367 hf373
                          have u374 : (m.1 8) + 1 ≤ (m363.1 8) := by omega
                          have u375 : (m.1 8) + 1 ≤ (m363.1 8) := by omega
                          have u376 : (m.1 23) ≤ (m236.1 23) := by omega
                          have u377 : (m.1 28) ≤ (m.1 28) := by omega
                          clear g279 g280 g281 g282 g283 h275 u285 u286 q292_7 q292_9 q292_11 ic291 h298 h300 h367
                          refine T_gf 300 (.ref 214) rfl rfl rfl rfl rfl rfl ?_
                          refine T_ld 301 (.int (i32 (m.1 24))) rfl (fun _ => rfl) ?_
                          refine T_ld 302 (.ref 189) rfl (fun _ => rfl) ?_
                          refine T_call 305 242 [.ref 189] [.int (i32 (m.1 24)), .ref 214] rfl (fun _ => rfl) rfl (c_stateHere w (mO m363 [] []) c N D (by omega) Tm363 (show LxP (m363.1 7) (m363.1 8) (m363.1 9) (m363.1 6) (m363.1 10) by rewrite [(show (m363.1 6) = (m.1 6) from ((fr1 Fm363 6 rfl).trans ((fr1 Fm289 6 rfl).trans ((fr1 Fm274 6 rfl).trans ((fr1 Fm257 6 rfl).trans ((fr1 Fm236 6 rfl).trans (fr1 Fm209 6 rfl)))))))]; first | exact hLx | exact (fun _ => hLx (by omega)) | (intro h9; exfalso; omega)) (show ∀ k, (m363.2 14) k + (m363.2 15) k ≤ 4000 by rewrite [(show (m363.2 14) = (m236.2 14) from ((fr2 Fm363 14 rfl).trans ((fr2 Fm289 14 rfl).trans ((fr2 Fm274 14 rfl).trans (fr2 Fm257 14 rfl))))), (show (m363.2 15) = (m236.2 15) from ((fr2 Fm363 15 rfl).trans ((fr2 Fm289 15 rfl).trans ((fr2 Fm274 15 rfl).trans (fr2 Fm257 15 rfl)))))]; assumption) (fun _ => ⟨(show PN (m363.1 13) (m363.1 19) (m363.1 20) (m363.1 21) (m363.1 22) (m363.1 23) (m363.1 25) (m363.1 26) (m363.2 16) (m363.2 17) by rewrite [(show (m363.1 13) = (m236.1 13) from ((fr1 Fm363 13 rfl).trans ((fr1 Fm289 13 rfl).trans ((fr1 Fm274 13 rfl).trans (fr1 Fm257 13 rfl))))), (show (m363.1 19) = (m.1 19) from ((fr1 Fm363 19 rfl).trans ((fr1 Fm289 19 rfl).trans ((fr1 Fm274 19 rfl).trans ((fr1 Fm257 19 rfl).trans ((fr1 Fm236 19 rfl).trans (fr1 Fm209 19 rfl))))))), (show (m363.1 20) = (m.1 20) from ((fr1 Fm363 20 rfl).trans ((fr1 Fm289 20 rfl).trans ((fr1 Fm274 20 rfl).trans ((fr1 Fm257 20 rfl).trans ((fr1 Fm236 20 rfl).trans (fr1 Fm209 20 rfl))))))), (show (m363.1 21) = (m.1 21) from ((fr1 Fm363 21 rfl).trans ((fr1 Fm289 21 rfl).trans ((fr1 Fm274 21 rfl).trans ((fr1 Fm257 21 rfl).trans ((fr1 Fm236 21 rfl).trans (fr1 Fm209 21 rfl))))))), (show (m363.1 22) = (m.1 22) from ((fr1 Fm363 22 rfl).trans ((fr1 Fm289 22 rfl).trans ((fr1 Fm274 22 rfl).trans ((fr1 Fm257 22 rfl).trans ((fr1 Fm236 22 rfl).trans (fr1 Fm209 22 rfl))))))), (show (m363.1 23) = (m236.1 23) from ((fr1 Fm363 23 rfl).trans ((fr1 Fm289 23 rfl).trans ((fr1 Fm274 23 rfl).trans (fr1 Fm257 23 rfl))))), (show (m363.1 25) = (m.1 25) from ((fr1 Fm363 25 rfl).trans ((fr1 Fm289 25 rfl).trans ((fr1 Fm274 25 rfl).trans ((fr1 Fm257 25 rfl).trans ((fr1 Fm236 25 rfl).trans (fr1 Fm209 25 rfl))))))), (show (m363.1 26) = (m.1 26) from ((fr1 Fm363 26 rfl).trans ((fr1 Fm289 26 rfl).trans ((fr1 Fm274 26 rfl).trans ((fr1 Fm257 26 rfl).trans ((fr1 Fm236 26 rfl).trans (fr1 Fm209 26 rfl))))))), (show (m363.2 16) = (m236.2 16) from ((fr2 Fm363 16 rfl).trans ((fr2 Fm289 16 rfl).trans ((fr2 Fm274 16 rfl).trans (fr2 Fm257 16 rfl))))), (show (m363.2 17) = (m236.2 17) from ((fr2 Fm363 17 rfl).trans ((fr2 Fm289 17 rfl).trans ((fr2 Fm274 17 rfl).trans (fr2 Fm257 17 rfl)))))]; assumption), (show SOp (m363.2 38) (m363.1 23) (m363.1 24) by rewrite [(show (m363.2 38) = (upI (m.2 38) v235 (m.1 24)) from ((fr2 Fm363 38 rfl).trans ((fr2 Fm289 38 rfl).trans ((fr2 Fm274 38 rfl).trans (fr2 Fm257 38 rfl))))), (show (m363.1 23) = (m236.1 23) from ((fr1 Fm363 23 rfl).trans ((fr1 Fm289 23 rfl).trans ((fr1 Fm274 23 rfl).trans (fr1 Fm257 23 rfl))))), (show (m363.1 24) = ((m.1 24) + 1) from ((fr1 Fm363 24 rfl).trans ((fr1 Fm289 24 rfl).trans ((fr1 Fm274 24 rfl).trans (fr1 Fm257 24 rfl)))))]; first | exact pSO | assumption)⟩)) (fun rr378 k379 => ?_)
                          obtain ⟨m380, x381, Tm380, Fm380, g382, h383, h384, h385, c386, rfl⟩ := k379
                          refine ⟨_, _, rfl, ?_⟩
                          refine T_nb (st' := [.int (i32 x381), .int (i32 (m.1 24)), .ref 214]) rfl ?_
                          obtain ⟨g382a, g382b⟩ := g382
                          have g387 : 0 ≤ m380.1 7 ∧ m380.1 7 ≤ 330 := Tm380.1 7
                          have g388 : 0 ≤ m380.1 8 ∧ m380.1 8 ≤ 4000 := Tm380.1 8
                          have g389 : 0 ≤ m380.1 9 ∧ m380.1 9 ≤ 4000 := Tm380.1 9
                          have g390 : 0 ≤ m380.1 10 ∧ m380.1 10 ≤ 8 := Tm380.1 10
                          have g391 : (-1) ≤ m380.1 11 ∧ m380.1 11 ≤ 4000 := Tm380.1 11
                          have g392 : 0 ≤ m380.1 13 ∧ m380.1 13 ≤ 120 := Tm380.1 13
                          have g393 : 0 ≤ m380.1 23 ∧ m380.1 23 ≤ 16 := Tm380.1 23
                          by_cases hf394 : (m380.1 10) = 0
                          · skip
                            replace h383 : (m363.1 10) = 0 := h383 hf394
                            replace h384 : LxP (m380.1 7) (m380.1 8) (m380.1 9) (m363.1 6) (m380.1 10) := h384
                            rewrite [(show (m363.1 6) = (m.1 6) from ((fr1 Fm363 6 rfl).trans ((fr1 Fm289 6 rfl).trans ((fr1 Fm274 6 rfl).trans ((fr1 Fm257 6 rfl).trans ((fr1 Fm236 6 rfl).trans (fr1 Fm209 6 rfl)))))))] at h384
                            have hLx := h384
                            replace h385 : ∀ k, (m380.2 14) k + (m380.2 15) k ≤ 4000 := h385
                            have hNM := h385
                            obtain ⟨c395, c396, c397, c398, c399⟩ := c386 hf394
                            replace c395 : (m363.1 8) + 1 ≤ (m380.1 8) := c395
                            replace c396 : PN (m380.1 13) (m363.1 19) (m363.1 20) (m363.1 21) (m363.1 22) (m380.1 23) (m363.1 25) (m363.1 26) (m380.2 16) (m380.2 17) := c396
                            rewrite [(show (m363.1 19) = (m.1 19) from ((fr1 Fm363 19 rfl).trans ((fr1 Fm289 19 rfl).trans ((fr1 Fm274 19 rfl).trans ((fr1 Fm257 19 rfl).trans ((fr1 Fm236 19 rfl).trans (fr1 Fm209 19 rfl))))))), (show (m363.1 20) = (m.1 20) from ((fr1 Fm363 20 rfl).trans ((fr1 Fm289 20 rfl).trans ((fr1 Fm274 20 rfl).trans ((fr1 Fm257 20 rfl).trans ((fr1 Fm236 20 rfl).trans (fr1 Fm209 20 rfl))))))), (show (m363.1 21) = (m.1 21) from ((fr1 Fm363 21 rfl).trans ((fr1 Fm289 21 rfl).trans ((fr1 Fm274 21 rfl).trans ((fr1 Fm257 21 rfl).trans ((fr1 Fm236 21 rfl).trans (fr1 Fm209 21 rfl))))))), (show (m363.1 22) = (m.1 22) from ((fr1 Fm363 22 rfl).trans ((fr1 Fm289 22 rfl).trans ((fr1 Fm274 22 rfl).trans ((fr1 Fm257 22 rfl).trans ((fr1 Fm236 22 rfl).trans (fr1 Fm209 22 rfl))))))), (show (m363.1 25) = (m.1 25) from ((fr1 Fm363 25 rfl).trans ((fr1 Fm289 25 rfl).trans ((fr1 Fm274 25 rfl).trans ((fr1 Fm257 25 rfl).trans ((fr1 Fm236 25 rfl).trans (fr1 Fm209 25 rfl))))))), (show (m363.1 26) = (m.1 26) from ((fr1 Fm363 26 rfl).trans ((fr1 Fm289 26 rfl).trans ((fr1 Fm274 26 rfl).trans ((fr1 Fm257 26 rfl).trans ((fr1 Fm236 26 rfl).trans (fr1 Fm209 26 rfl)))))))] at c396
                            have pPN := c396
                            replace c397 : SOp (m380.2 38) (m380.1 23) (m363.1 24) := c397
                            rewrite [(show (m363.1 24) = ((m.1 24) + 1) from ((fr1 Fm363 24 rfl).trans ((fr1 Fm289 24 rfl).trans ((fr1 Fm274 24 rfl).trans (fr1 Fm257 24 rfl)))))] at c397
                            have pSO := c397
                            replace c398 : x381 < (m380.1 23) := c398
                            have hRS := c398
                            replace c399 : (m363.1 23) ≤ (m380.1 23) := c399
                            rewrite [(show (m363.1 23) = (m236.1 23) from ((fr1 Fm363 23 rfl).trans ((fr1 Fm289 23 rfl).trans ((fr1 Fm274 23 rfl).trans (fr1 Fm257 23 rfl)))))] at c399
                            clear c386
                            have u400 : (m.1 8) + 1 ≤ (m380.1 8) := by omega
                            have u401 : (m.1 8) + 1 ≤ (m380.1 8) := by omega
                            have u402 : (m.1 23) ≤ (m380.1 23) := by omega
                            have u403 : (m.1 28) ≤ (m.1 28) := by omega
                            clear q246_13 q246_23 ic239 ic240 ic241 ic244 u270 u287 g368 g369 g370 g371 g372 h364 h366 u374 u375 u376 h383 c395 c399
                            have G404 : ∀ j, (-2) ≤ (upI (m.2 44) (m.1 24) x381) j ∧ (upI (m.2 44) (m.1 24) x381) j ≤ 15 := upI_rg (hT.2.1 44) ⟨by omega, by omega⟩
                            refine T_iast (a' := [(44, upI (m.2 44) (m.1 24) x381)]) 306 44 (m.2 44) rfl rfl rfl (by omega) (show (m.1 24) < (16 : Int) by omega) (show (m380.2 44) = (m.2 44) from ((fr2 Fm380 44 rfl).trans ((fr2 Fm363 44 rfl).trans ((fr2 Fm289 44 rfl).trans ((fr2 Fm274 44 rfl).trans ((fr2 Fm257 44 rfl).trans ((fr2 Fm236 44 rfl).trans (fr2 Fm209 44 rfl)))))))) rfl ?_
                            refine T_ld 307 (.ref 189) rfl (fun _ => rfl) ?_
                            refine T_ld 309 (.int (i32 59)) rfl (fun _ => rfl) ?_
                            refine T_call 312 232 [.ref 189, .int (i32 59)] [] rfl (fun _ => rfl) rfl (d_need w (mO m380 [] [(44, upI (m.2 44) (m.1 24) x381)]) c N D (by omega) (Ty_mO Tm380 rfl rfl trivial ⟨G404, trivial⟩) 59 ⟨by decide, by decide⟩ (show 1 ≤ (59 : Int) by omega) (show LxP (m380.1 7) (m380.1 8) (m380.1 9) (m380.1 6) (m380.1 10) by rewrite [(show (m380.1 6) = (m.1 6) from ((fr1 Fm380 6 rfl).trans ((fr1 Fm363 6 rfl).trans ((fr1 Fm289 6 rfl).trans ((fr1 Fm274 6 rfl).trans ((fr1 Fm257 6 rfl).trans ((fr1 Fm236 6 rfl).trans (fr1 Fm209 6 rfl))))))))]; first | exact hLx | (intro h9; exfalso; omega) | (intro h9; have h8 := hLx (by omega); omega))) (fun rr405 k406 => ?_)
                            obtain ⟨m407, Tm407, Fm407, h408, h409, h410, h411, rfl⟩ := k406
                            refine ⟨_, _, rfl, ?_⟩
                            refine T_nb (st' := []) rfl ?_
                            have g412 : 0 ≤ m407.1 7 ∧ m407.1 7 ≤ 330 := Tm407.1 7
                            have g413 : 0 ≤ m407.1 8 ∧ m407.1 8 ≤ 4000 := Tm407.1 8
                            have g414 : 0 ≤ m407.1 9 ∧ m407.1 9 ≤ 4000 := Tm407.1 9
                            have g415 : 0 ≤ m407.1 10 ∧ m407.1 10 ≤ 8 := Tm407.1 10
                            have g416 : (-1) ≤ m407.1 11 ∧ m407.1 11 ≤ 4000 := Tm407.1 11
                            by_cases hf417 : (m407.1 10) = 0
                            · skip
                              replace h408 : LxP (m407.1 7) (m407.1 8) (m407.1 9) (m380.1 6) (m407.1 10) := h408
                              rewrite [(show (m380.1 6) = (m.1 6) from ((fr1 Fm380 6 rfl).trans ((fr1 Fm363 6 rfl).trans ((fr1 Fm289 6 rfl).trans ((fr1 Fm274 6 rfl).trans ((fr1 Fm257 6 rfl).trans ((fr1 Fm236 6 rfl).trans (fr1 Fm209 6 rfl))))))))] at h408
                              have hLx := h408
                              replace h409 : (m380.1 10) = 0 ∧ (m380.1 7) = (59 : Int) := h409 hf417
                              replace h410 : (m380.1 8) ≤ (m407.1 8) := h410
                              replace h411 : (m380.1 8) + (m380.1 9) ≤ (m407.1 8) := h411 hf417
                              have u418 : (m.1 8) + 1 ≤ (m407.1 8) := by omega
                              have u419 : (m.1 8) + 1 ≤ (m407.1 8) := by omega
                              have u420 : (m.1 23) ≤ (m380.1 23) := by omega
                              have u421 : (m.1 28) ≤ (m.1 28) := by omega
                              clear g387 g388 g389 g390 g391 h384 u400 u401 h409 h410 h411
                              have hStR : StR (m.2 65) (m.1 28) (m380.1 23) (m.1 24) (upI (m.2 42) (m.1 24) 0) (m.2 95) (m.2 96) (upI (m.2 44) (m.1 24) x381) (m.2 45) := ⟨fun h => by rw [upI_s] at h; omega, by rw [upI_s]; omega, fun c c0 c1 => by rw [upI_s] at c1; omega⟩
                              have hB1 := agr_u (f := (m.2 42)) (x := 0) (Int.le_refl (m.1 24))
                              have hB2 := agr_r (m.2 95) (m.1 24)
                              have hB3 := agr_r (m.2 96) (m.1 24)
                              have hB4 : agr (m.2 44) (upI (m.2 44) (m.1 24) x381) (m.1 24) := agr_u (Int.le_refl _)
                              have hB5 := agr_r (m.2 45) (8 * (m.1 24))
                              refine T_goto 337 rfl (fun _ => rfl) ?_
                              have hSt2 : StP (m.2 65) (m.1 28) (m380.1 23) ((m.1 24) + 1) (upI (m.2 42) (m.1 24) 0) (m.2 95) (m.2 96) (upI (m.2 44) (m.1 24) x381) (m.2 45) := StP_add (StP_f pSt (by omega) (by omega) hAg hB1 hB2 hB3 hB4 hB5 (hT.2.1 42)) hStR
                              refine T_ld 338 (.ref 189) rfl (fun _ => rfl) ?_
                              refine T_ld 340 (.int (i32 125)) rfl (fun _ => rfl) ?_
                              refine T_call 343 232 [.ref 189, .int (i32 125)] [] rfl (fun _ => rfl) rfl (d_need w (mO m407 [] []) c N D (by omega) Tm407 125 ⟨by decide, by decide⟩ (show 1 ≤ (125 : Int) by omega) (show LxP (m407.1 7) (m407.1 8) (m407.1 9) (m407.1 6) (m407.1 10) by rewrite [(show (m407.1 6) = (m.1 6) from ((fr1 Fm407 6 rfl).trans ((fr1 Fm380 6 rfl).trans ((fr1 Fm363 6 rfl).trans ((fr1 Fm289 6 rfl).trans ((fr1 Fm274 6 rfl).trans ((fr1 Fm257 6 rfl).trans ((fr1 Fm236 6 rfl).trans (fr1 Fm209 6 rfl)))))))))]; first | exact hLx | (intro h9; exfalso; omega) | (intro h9; have h8 := hLx (by omega); omega))) (fun rr422 k423 => ?_)
                              obtain ⟨m424, Tm424, Fm424, h425, h426, h427, h428, rfl⟩ := k423
                              refine ⟨_, _, rfl, ?_⟩
                              refine T_nb (st' := []) rfl ?_
                              have g429 : 0 ≤ m424.1 7 ∧ m424.1 7 ≤ 330 := Tm424.1 7
                              have g430 : 0 ≤ m424.1 8 ∧ m424.1 8 ≤ 4000 := Tm424.1 8
                              have g431 : 0 ≤ m424.1 9 ∧ m424.1 9 ≤ 4000 := Tm424.1 9
                              have g432 : 0 ≤ m424.1 10 ∧ m424.1 10 ≤ 8 := Tm424.1 10
                              have g433 : (-1) ≤ m424.1 11 ∧ m424.1 11 ≤ 4000 := Tm424.1 11
                              by_cases hf434 : (m424.1 10) = 0
                              · skip
                                replace h425 : LxP (m424.1 7) (m424.1 8) (m424.1 9) (m407.1 6) (m424.1 10) := h425
                                rewrite [(show (m407.1 6) = (m.1 6) from ((fr1 Fm407 6 rfl).trans ((fr1 Fm380 6 rfl).trans ((fr1 Fm363 6 rfl).trans ((fr1 Fm289 6 rfl).trans ((fr1 Fm274 6 rfl).trans ((fr1 Fm257 6 rfl).trans ((fr1 Fm236 6 rfl).trans (fr1 Fm209 6 rfl)))))))))] at h425
                                have hLx := h425
                                replace h426 : (m407.1 10) = 0 ∧ (m407.1 7) = (125 : Int) := h426 hf434
                                replace h427 : (m407.1 8) ≤ (m424.1 8) := h427
                                replace h428 : (m407.1 8) + (m407.1 9) ≤ (m424.1 8) := h428 hf434
                                have u435 : (m.1 8) + 1 ≤ (m424.1 8) := by omega
                                have u436 : (m.1 8) + 1 ≤ (m424.1 8) := by omega
                                have u437 : (m.1 23) ≤ (m380.1 23) := by omega
                                have u438 : (m.1 28) ≤ (m.1 28) := by omega
                                clear g412 g413 g414 g415 g416 h408 u418 u419 h426 h427 h428
                                refine T_ret rfl (fun _ => rfl) ?_
                                exact ⟨(mO m424 [] []), Tm424, (fr_m (fr_s Fm424 (fr_m (fr_s Fm407 (fr_m (fr_s Fm380 (fr_m (fr_s Fm363 (fr_m (fr_s Fm289 (fr_m (fr_s Fm274 (fr_m (fr_s Fm257 (fr_m (fr_s Fm236 (fr_m (fr_s Fm209 (fr_m fr_0 rfl rfl) rfl rfl) rfl rfl) rfl rfl) rfl rfl) rfl rfl) rfl rfl) rfl rfl) rfl rfl) rfl rfl) rfl rfl) rfl rfl) rfl rfl) rfl rfl) rfl rfl) rfl rfl) rfl rfl) rfl rfl) rfl rfl), (show (m424.1 10) = 0 → (m.1 10) = 0 by omega), (show LxP (m424.1 7) (m424.1 8) (m424.1 9) (m.1 6) (m424.1 10) by first | (first | exact hLx | exact (fun _ => hLx (by omega)) | (intro h9; exfalso; omega)) | (exfalso; omega)), (show ∀ k, (m424.2 14) k + (m424.2 15) k ≤ 4000 by rewrite [(show (m424.2 14) = (m380.2 14) from ((fr2 Fm424 14 rfl).trans (fr2 Fm407 14 rfl))), (show (m424.2 15) = (m380.2 15) from ((fr2 Fm424 15 rfl).trans (fr2 Fm407 15 rfl)))]; first | (first | exact hNM | (intro k; rw [hE1, hE2]; have := hNM k; have h7 := hLx0 hf0; unfold upI; split <;> omega)) | (exfalso; omega)), (fun _ => ⟨(show (m.1 8) + 1 ≤ (m424.1 8) by omega), (show PN (m424.1 13) (m.1 19) (m.1 20) (m.1 21) (m.1 22) (m424.1 23) (m.1 25) (m.1 26) (m424.2 16) (m424.2 17) by rewrite [(show (m424.1 13) = (m380.1 13) from ((fr1 Fm424 13 rfl).trans (fr1 Fm407 13 rfl))), (show (m424.1 23) = (m380.1 23) from ((fr1 Fm424 23 rfl).trans (fr1 Fm407 23 rfl))), (show (m424.2 16) = (m380.2 16) from ((fr2 Fm424 16 rfl).trans (fr2 Fm407 16 rfl))), (show (m424.2 17) = (m380.2 17) from ((fr2 Fm424 17 rfl).trans (fr2 Fm407 17 rfl)))]; first | (exact pPN) | (exfalso; omega)), (show CN (m424.2 65) (m424.2 67) (m424.1 28) by rewrite [(show (m424.2 65) = (m.2 65) from ((fr2 Fm424 65 rfl).trans ((fr2 Fm407 65 rfl).trans ((fr2 Fm380 65 rfl).trans ((fr2 Fm363 65 rfl).trans ((fr2 Fm289 65 rfl).trans ((fr2 Fm274 65 rfl).trans ((fr2 Fm257 65 rfl).trans ((fr2 Fm236 65 rfl).trans (fr2 Fm209 65 rfl)))))))))), (show (m424.2 67) = (m.2 67) from ((fr2 Fm424 67 rfl).trans ((fr2 Fm407 67 rfl).trans ((fr2 Fm380 67 rfl).trans ((fr2 Fm363 67 rfl).trans ((fr2 Fm289 67 rfl).trans ((fr2 Fm274 67 rfl).trans ((fr2 Fm257 67 rfl).trans ((fr2 Fm236 67 rfl).trans (fr2 Fm209 67 rfl)))))))))), (show (m424.1 28) = (m.1 28) from ((fr1 Fm424 28 rfl).trans ((fr1 Fm407 28 rfl).trans ((fr1 Fm380 28 rfl).trans ((fr1 Fm363 28 rfl).trans ((fr1 Fm289 28 rfl).trans ((fr1 Fm274 28 rfl).trans ((fr1 Fm257 28 rfl).trans ((fr1 Fm236 28 rfl).trans (fr1 Fm209 28 rfl))))))))))]; first | (exact hCN) | (exfalso; omega)), (show SOp (m424.2 38) (m424.1 23) (m424.1 24) by rewrite [(show (m424.2 38) = (m380.2 38) from ((fr2 Fm424 38 rfl).trans (fr2 Fm407 38 rfl))), (show (m424.1 23) = (m380.1 23) from ((fr1 Fm424 23 rfl).trans (fr1 Fm407 23 rfl))), (show (m424.1 24) = ((m.1 24) + 1) from ((fr1 Fm424 24 rfl).trans ((fr1 Fm407 24 rfl).trans ((fr1 Fm380 24 rfl).trans ((fr1 Fm363 24 rfl).trans ((fr1 Fm289 24 rfl).trans ((fr1 Fm274 24 rfl).trans (fr1 Fm257 24 rfl))))))))]; first | (exact pSO) | (exfalso; omega)), (show (m.1 23) ≤ (m424.1 23) by rewrite [(show (m424.1 23) = (m380.1 23) from ((fr1 Fm424 23 rfl).trans (fr1 Fm407 23 rfl)))]; omega), (show (m.1 28) ≤ (m424.1 28) by rewrite [(show (m424.1 28) = (m.1 28) from ((fr1 Fm424 28 rfl).trans ((fr1 Fm407 28 rfl).trans ((fr1 Fm380 28 rfl).trans ((fr1 Fm363 28 rfl).trans ((fr1 Fm289 28 rfl).trans ((fr1 Fm274 28 rfl).trans ((fr1 Fm257 28 rfl).trans ((fr1 Fm236 28 rfl).trans (fr1 Fm209 28 rfl))))))))))]; omega), (show agr (m.2 65) (m424.2 65) (m.1 28) by rewrite [(show (m424.2 65) = (m.2 65) from ((fr2 Fm424 65 rfl).trans ((fr2 Fm407 65 rfl).trans ((fr2 Fm380 65 rfl).trans ((fr2 Fm363 65 rfl).trans ((fr2 Fm289 65 rfl).trans ((fr2 Fm274 65 rfl).trans ((fr2 Fm257 65 rfl).trans ((fr2 Fm236 65 rfl).trans (fr2 Fm209 65 rfl))))))))))]; first | (exact hAg) | (exfalso; omega)), (show StP (m424.2 65) (m424.1 28) (m424.1 23) (m424.1 24) (m424.2 42) (m424.2 95) (m424.2 96) (m424.2 44) (m424.2 45) by rewrite [(show (m424.2 65) = (m.2 65) from ((fr2 Fm424 65 rfl).trans ((fr2 Fm407 65 rfl).trans ((fr2 Fm380 65 rfl).trans ((fr2 Fm363 65 rfl).trans ((fr2 Fm289 65 rfl).trans ((fr2 Fm274 65 rfl).trans ((fr2 Fm257 65 rfl).trans ((fr2 Fm236 65 rfl).trans (fr2 Fm209 65 rfl)))))))))), (show (m424.1 28) = (m.1 28) from ((fr1 Fm424 28 rfl).trans ((fr1 Fm407 28 rfl).trans ((fr1 Fm380 28 rfl).trans ((fr1 Fm363 28 rfl).trans ((fr1 Fm289 28 rfl).trans ((fr1 Fm274 28 rfl).trans ((fr1 Fm257 28 rfl).trans ((fr1 Fm236 28 rfl).trans (fr1 Fm209 28 rfl)))))))))), (show (m424.1 23) = (m380.1 23) from ((fr1 Fm424 23 rfl).trans (fr1 Fm407 23 rfl))), (show (m424.1 24) = ((m.1 24) + 1) from ((fr1 Fm424 24 rfl).trans ((fr1 Fm407 24 rfl).trans ((fr1 Fm380 24 rfl).trans ((fr1 Fm363 24 rfl).trans ((fr1 Fm289 24 rfl).trans ((fr1 Fm274 24 rfl).trans (fr1 Fm257 24 rfl)))))))), (show (m424.2 42) = (upI (m.2 42) (m.1 24) 0) from ((fr2 Fm424 42 rfl).trans ((fr2 Fm407 42 rfl).trans ((fr2 Fm380 42 rfl).trans ((fr2 Fm363 42 rfl).trans ((fr2 Fm289 42 rfl).trans ((fr2 Fm274 42 rfl).trans (fr2 Fm257 42 rfl)))))))), (show (m424.2 95) = (m.2 95) from ((fr2 Fm424 95 rfl).trans ((fr2 Fm407 95 rfl).trans ((fr2 Fm380 95 rfl).trans ((fr2 Fm363 95 rfl).trans ((fr2 Fm289 95 rfl).trans ((fr2 Fm274 95 rfl).trans ((fr2 Fm257 95 rfl).trans ((fr2 Fm236 95 rfl).trans (fr2 Fm209 95 rfl)))))))))), (show (m424.2 96) = (m.2 96) from ((fr2 Fm424 96 rfl).trans ((fr2 Fm407 96 rfl).trans ((fr2 Fm380 96 rfl).trans ((fr2 Fm363 96 rfl).trans ((fr2 Fm289 96 rfl).trans ((fr2 Fm274 96 rfl).trans ((fr2 Fm257 96 rfl).trans ((fr2 Fm236 96 rfl).trans (fr2 Fm209 96 rfl)))))))))), (show (m424.2 44) = (upI (m.2 44) (m.1 24) x381) from ((fr2 Fm424 44 rfl).trans (fr2 Fm407 44 rfl))), (show (m424.2 45) = (m.2 45) from ((fr2 Fm424 45 rfl).trans ((fr2 Fm407 45 rfl).trans ((fr2 Fm380 45 rfl).trans ((fr2 Fm363 45 rfl).trans ((fr2 Fm289 45 rfl).trans ((fr2 Fm274 45 rfl).trans ((fr2 Fm257 45 rfl).trans ((fr2 Fm236 45 rfl).trans (fr2 Fm209 45 rfl))))))))))]; first | (exact hSt2) | (exfalso; omega))⟩), rfl⟩
                              · skip
                                replace h425 : LxP (m424.1 7) (m424.1 8) (m424.1 9) (m407.1 6) (m424.1 10) := h425
                                rewrite [(show (m407.1 6) = (m.1 6) from ((fr1 Fm407 6 rfl).trans ((fr1 Fm380 6 rfl).trans ((fr1 Fm363 6 rfl).trans ((fr1 Fm289 6 rfl).trans ((fr1 Fm274 6 rfl).trans ((fr1 Fm257 6 rfl).trans ((fr1 Fm236 6 rfl).trans (fr1 Fm209 6 rfl)))))))))] at h425
                                have hLx := h425
                                clear h426
                                replace h427 : (m407.1 8) ≤ (m424.1 8) := h427
                                clear h428
                                have hf439 : 1 ≤ (m424.1 10) := by omega
                                clear g412 g413 g414 g415 g416 h408 u418 u419 h427
                                refine Tm_lv (a := [(0, .ref 189)]) rfl rfl ⟨rfl, trivial⟩ ?_
                                exact J343_22 (mO m424 [] []) Tm424 (fr_m (fr_s Fm424 (fr_m (fr_s Fm407 (fr_m (fr_s Fm380 (fr_m (fr_s Fm363 (fr_m (fr_s Fm289 (fr_m (fr_s Fm274 (fr_m (fr_s Fm257 (fr_m (fr_s Fm236 (fr_m (fr_s Fm209 (fr_m fr_0 rfl rfl) rfl rfl) rfl rfl) rfl rfl) rfl rfl) rfl rfl) rfl rfl) rfl rfl) rfl rfl) rfl rfl) rfl rfl) rfl rfl) rfl rfl) rfl rfl) rfl rfl) rfl rfl) rfl rfl) rfl rfl) rfl rfl) (show ∀ k, (m424.2 14) k + (m424.2 15) k ≤ 4000 by rewrite [(show (m424.2 14) = (m380.2 14) from ((fr2 Fm424 14 rfl).trans (fr2 Fm407 14 rfl))), (show (m424.2 15) = (m380.2 15) from ((fr2 Fm424 15 rfl).trans (fr2 Fm407 15 rfl)))]; first | exact hNM | (intro k; rw [hE1, hE2]; have := hNM0 k; have h7 := hLx1; unfold upI; split <;> omega)) (show (m.1 24) ≤ 15 by omega) (show 1 ≤ (m424.1 10) by omega)
                            · skip
                              replace h408 : LxP (m407.1 7) (m407.1 8) (m407.1 9) (m380.1 6) (m407.1 10) := h408
                              rewrite [(show (m380.1 6) = (m.1 6) from ((fr1 Fm380 6 rfl).trans ((fr1 Fm363 6 rfl).trans ((fr1 Fm289 6 rfl).trans ((fr1 Fm274 6 rfl).trans ((fr1 Fm257 6 rfl).trans ((fr1 Fm236 6 rfl).trans (fr1 Fm209 6 rfl))))))))] at h408
                              have hLx := h408
                              clear h409
                              replace h410 : (m380.1 8) ≤ (m407.1 8) := h410
                              clear h411
                              have hf440 : 1 ≤ (m407.1 10) := by omega
                              clear g387 g388 g389 g390 g391 h384 u400 u401 h410
                              refine Tm_lv (a := [(0, .ref 189)]) rfl rfl ⟨rfl, trivial⟩ ?_
                              exact J312_69 (mO m407 [] []) Tm407 (fr_m (fr_s Fm407 (fr_m (fr_s Fm380 (fr_m (fr_s Fm363 (fr_m (fr_s Fm289 (fr_m (fr_s Fm274 (fr_m (fr_s Fm257 (fr_m (fr_s Fm236 (fr_m (fr_s Fm209 (fr_m fr_0 rfl rfl) rfl rfl) rfl rfl) rfl rfl) rfl rfl) rfl rfl) rfl rfl) rfl rfl) rfl rfl) rfl rfl) rfl rfl) rfl rfl) rfl rfl) rfl rfl) rfl rfl) rfl rfl) rfl rfl) (show ∀ k, (m407.2 14) k + (m407.2 15) k ≤ 4000 by rewrite [(show (m407.2 14) = (m380.2 14) from (fr2 Fm407 14 rfl)), (show (m407.2 15) = (m380.2 15) from (fr2 Fm407 15 rfl))]; first | exact hNM | (intro k; rw [hE1, hE2]; have := hNM0 k; have h7 := hLx1; unfold upI; split <;> omega)) (show (m.1 24) ≤ 15 by omega) (show 1 ≤ (m407.1 10) by omega)
                          · skip
                            clear c386
                            clear h383
                            replace h384 : LxP (m380.1 7) (m380.1 8) (m380.1 9) (m363.1 6) (m380.1 10) := h384
                            rewrite [(show (m363.1 6) = (m.1 6) from ((fr1 Fm363 6 rfl).trans ((fr1 Fm289 6 rfl).trans ((fr1 Fm274 6 rfl).trans ((fr1 Fm257 6 rfl).trans ((fr1 Fm236 6 rfl).trans (fr1 Fm209 6 rfl)))))))] at h384
                            have hLx := h384
                            replace h385 : ∀ k, (m380.2 14) k + (m380.2 15) k ≤ 4000 := h385
                            have hNM := h385
                            have hf441 : 1 ≤ (m380.1 10) := by omega
                            clear q246_13 q246_23 ic239 ic240 ic241 ic244 u270 u287 g368 g369 g370 g371 g372 h364 h366 u374 u375 u376
                            refine Tm_lv (a := [(0, .ref 189)]) rfl rfl ⟨rfl, trivial⟩ ?_
                            exact J305_90 x381 (mO m380 [] []) (r32 (by omega) (by omega)) Tm380 (fr_m (fr_s Fm380 (fr_m (fr_s Fm363 (fr_m (fr_s Fm289 (fr_m (fr_s Fm274 (fr_m (fr_s Fm257 (fr_m (fr_s Fm236 (fr_m (fr_s Fm209 (fr_m fr_0 rfl rfl) rfl rfl) rfl rfl) rfl rfl) rfl rfl) rfl rfl) rfl rfl) rfl rfl) rfl rfl) rfl rfl) rfl rfl) rfl rfl) rfl rfl) rfl rfl) rfl rfl) (show (-2) ≤ x381 by omega) (show x381 ≤ 15 by omega) (show ∀ k, (m380.2 14) k + (m380.2 15) k ≤ 4000 by first | exact hNM | (intro k; rw [hE1, hE2]; have := hNM0 k; have h7 := hLx1; unfold upI; split <;> omega)) (show (m.1 24) ≤ 15 by omega) (show 0 ≤ (m.1 24) ∧ (m.1 24) ≤ 16 by omega) (show 1 ≤ (m380.1 10) by omega)
                        · skip
                          replace h364 : LxP (m363.1 7) (m363.1 8) (m363.1 9) (m289.1 6) (m363.1 10) := h364
                          rewrite [(show (m289.1 6) = (m.1 6) from ((fr1 Fm289 6 rfl).trans ((fr1 Fm274 6 rfl).trans ((fr1 Fm257 6 rfl).trans ((fr1 Fm236 6 rfl).trans (fr1 Fm209 6 rfl))))))] at h364
                          have hLx := h364
                          clear h365
                          replace h366 : (m289.1 8) ≤ (m363.1 8) := h366
                          clear h367
                          have hf442 : 1 ≤ (m363.1 10) := by omega
                          clear g279 g280 g281 g282 g283 h275 u285 u286 q292_7 q292_9 q292_11 ic291 h298 h300
                          refine Tm_lv (a := [(0, .ref 189), (3, .int (i32 (m.1 24)))]) rfl rfl ⟨rfl, rfl, trivial⟩ ?_
                          exact J296_115 (mO m363 [] []) Tm363 (fr_m (fr_s Fm363 (fr_m (fr_s Fm289 (fr_m (fr_s Fm274 (fr_m (fr_s Fm257 (fr_m (fr_s Fm236 (fr_m (fr_s Fm209 (fr_m fr_0 rfl rfl) rfl rfl) rfl rfl) rfl rfl) rfl rfl) rfl rfl) rfl rfl) rfl rfl) rfl rfl) rfl rfl) rfl rfl) rfl rfl) rfl rfl) (show ∀ k, (m363.2 14) k + (m363.2 15) k ≤ 4000 by rewrite [(show (m363.2 14) = (m236.2 14) from ((fr2 Fm363 14 rfl).trans ((fr2 Fm289 14 rfl).trans ((fr2 Fm274 14 rfl).trans (fr2 Fm257 14 rfl))))), (show (m363.2 15) = (m236.2 15) from ((fr2 Fm363 15 rfl).trans ((fr2 Fm289 15 rfl).trans ((fr2 Fm274 15 rfl).trans (fr2 Fm257 15 rfl)))))]; first | exact hNM | (intro k; rw [hE1, hE2]; have := hNM0 k; have h7 := hLx1; unfold upI; split <;> omega)) (show (m.1 24) ≤ 15 by omega) (show 0 ≤ (m.1 24) ∧ (m.1 24) ≤ 16 by omega) (show 1 ≤ (m363.1 10) by omega)
                    · skip
                      refine T_ld 267 (.ref 189) rfl (fun _ => rfl) ?_
                      refine T_ld 268 (.int (i32 (m.1 24))) rfl (fun _ => rfl) ?_
                      refine T_call 271 241 [.ref 189, .int (i32 (m.1 24))] [] rfl (fun _ => rfl) rfl (c_takeExtract w (mO m289 [] []) c N D (by omega) Tm289 (m.1 24) (r32 (by omega) (by omega)) (show LxP (m289.1 7) (m289.1 8) (m289.1 9) (m289.1 6) (m289.1 10) by rewrite [(show (m289.1 6) = (m.1 6) from ((fr1 Fm289 6 rfl).trans ((fr1 Fm274 6 rfl).trans ((fr1 Fm257 6 rfl).trans ((fr1 Fm236 6 rfl).trans (fr1 Fm209 6 rfl))))))]; first | exact hLx | exact (fun _ => hLx (by omega)) | (intro h9; exfalso; omega)) (show ∀ k, (m289.2 14) k + (m289.2 15) k ≤ 4000 by rewrite [(show (m289.2 14) = (m236.2 14) from ((fr2 Fm289 14 rfl).trans ((fr2 Fm274 14 rfl).trans (fr2 Fm257 14 rfl)))), (show (m289.2 15) = (m236.2 15) from ((fr2 Fm289 15 rfl).trans ((fr2 Fm274 15 rfl).trans (fr2 Fm257 15 rfl))))]; assumption) (show 0 ≤ (m.1 24) ∧ (m.1 24) ≤ 15 by omega) (fun _ => ⟨(show PN (m289.1 13) (m289.1 19) (m289.1 20) (m289.1 21) (m289.1 22) (m289.1 23) (m289.1 25) (m289.1 26) (m289.2 16) (m289.2 17) by rewrite [(show (m289.1 13) = (m236.1 13) from ((fr1 Fm289 13 rfl).trans ((fr1 Fm274 13 rfl).trans (fr1 Fm257 13 rfl)))), (show (m289.1 19) = (m.1 19) from ((fr1 Fm289 19 rfl).trans ((fr1 Fm274 19 rfl).trans ((fr1 Fm257 19 rfl).trans ((fr1 Fm236 19 rfl).trans (fr1 Fm209 19 rfl)))))), (show (m289.1 20) = (m.1 20) from ((fr1 Fm289 20 rfl).trans ((fr1 Fm274 20 rfl).trans ((fr1 Fm257 20 rfl).trans ((fr1 Fm236 20 rfl).trans (fr1 Fm209 20 rfl)))))), (show (m289.1 21) = (m.1 21) from ((fr1 Fm289 21 rfl).trans ((fr1 Fm274 21 rfl).trans ((fr1 Fm257 21 rfl).trans ((fr1 Fm236 21 rfl).trans (fr1 Fm209 21 rfl)))))), (show (m289.1 22) = (m.1 22) from ((fr1 Fm289 22 rfl).trans ((fr1 Fm274 22 rfl).trans ((fr1 Fm257 22 rfl).trans ((fr1 Fm236 22 rfl).trans (fr1 Fm209 22 rfl)))))), (show (m289.1 23) = (m236.1 23) from ((fr1 Fm289 23 rfl).trans ((fr1 Fm274 23 rfl).trans (fr1 Fm257 23 rfl)))), (show (m289.1 25) = (m.1 25) from ((fr1 Fm289 25 rfl).trans ((fr1 Fm274 25 rfl).trans ((fr1 Fm257 25 rfl).trans ((fr1 Fm236 25 rfl).trans (fr1 Fm209 25 rfl)))))), (show (m289.1 26) = (m.1 26) from ((fr1 Fm289 26 rfl).trans ((fr1 Fm274 26 rfl).trans ((fr1 Fm257 26 rfl).trans ((fr1 Fm236 26 rfl).trans (fr1 Fm209 26 rfl)))))), (show (m289.2 16) = (m236.2 16) from ((fr2 Fm289 16 rfl).trans ((fr2 Fm274 16 rfl).trans (fr2 Fm257 16 rfl)))), (show (m289.2 17) = (m236.2 17) from ((fr2 Fm289 17 rfl).trans ((fr2 Fm274 17 rfl).trans (fr2 Fm257 17 rfl))))]; assumption), (show (m289.1 7) ≠ 0 by omega)⟩)) (fun rr443 k444 => ?_)
                      obtain ⟨m445, Tm445, Fm445, h446, h447, c448, rfl⟩ := k444
                      refine ⟨_, _, rfl, ?_⟩
                      refine T_nb (st' := []) rfl ?_
                      have g449 : 0 ≤ m445.1 7 ∧ m445.1 7 ≤ 330 := Tm445.1 7
                      have g450 : 0 ≤ m445.1 8 ∧ m445.1 8 ≤ 4000 := Tm445.1 8
                      have g451 : 0 ≤ m445.1 9 ∧ m445.1 9 ≤ 4000 := Tm445.1 9
                      have g452 : 0 ≤ m445.1 10 ∧ m445.1 10 ≤ 8 := Tm445.1 10
                      have g453 : (-1) ≤ m445.1 11 ∧ m445.1 11 ≤ 4000 := Tm445.1 11
                      by_cases hf454 : (m445.1 10) = 0
                      · skip
                        replace h446 : (m289.1 10) = 0 := h446 hf454
                        replace h447 : LxP (m445.1 7) (m445.1 8) (m445.1 9) (m289.1 6) (m445.1 10) := h447
                        rewrite [(show (m289.1 6) = (m.1 6) from ((fr1 Fm289 6 rfl).trans ((fr1 Fm274 6 rfl).trans ((fr1 Fm257 6 rfl).trans ((fr1 Fm236 6 rfl).trans (fr1 Fm209 6 rfl))))))] at h447
                        have hLx := h447
                        have c455 := c448 hf454
                        replace c455 : (m289.1 8) + 1 ≤ (m445.1 8) := c455
                        clear c448
                        have u456 : (m.1 8) + 1 ≤ (m445.1 8) := by omega
                        have u457 : (m.1 8) + 1 ≤ (m445.1 8) := by omega
                        have u458 : (m.1 23) ≤ (m236.1 23) := by omega
                        have u459 : (m.1 28) ≤ (m.1 28) := by omega
                        clear g279 g280 g281 g282 g283 h275 u285 u286 q292_7 q292_9 q292_11 ic291 h298
                        refine T_goto 249 rfl (fun _ => rfl) ?_
                        exact ih294 (mO m445 [] []) Tm445 (fr_m (fr_s Fm445 (fr_m (fr_s Fm289 (fr_m fr_0 rfl rfl) rfl rfl) rfl rfl) rfl rfl) rfl rfl) (show LxP (m445.1 7) (m445.1 8) (m445.1 9) (m.1 6) (m445.1 10) by exact hLx) (fun _ => (show (m.1 8) + 1 ≤ (m445.1 8) by omega)) (show 1000000 * (8 - (m445.1 10)) + (4000 - (m445.1 8)) < (n : Int) by omega)
                      · skip
                        clear c448
                        clear h446
                        replace h447 : LxP (m445.1 7) (m445.1 8) (m445.1 9) (m289.1 6) (m445.1 10) := h447
                        rewrite [(show (m289.1 6) = (m.1 6) from ((fr1 Fm289 6 rfl).trans ((fr1 Fm274 6 rfl).trans ((fr1 Fm257 6 rfl).trans ((fr1 Fm236 6 rfl).trans (fr1 Fm209 6 rfl))))))] at h447
                        have hLx := h447
                        have hf460 : 1 ≤ (m445.1 10) := by omega
                        clear g279 g280 g281 g282 g283 h275 u285 u286 q292_7 q292_9 q292_11 ic291 h298
                        refine Tm_lv (a := [(0, .ref 189), (3, .int (i32 (m.1 24)))]) rfl rfl ⟨rfl, rfl, trivial⟩ ?_
                        exact J271_140 (mO m445 [] []) Tm445 (fr_m (fr_s Fm445 (fr_m (fr_s Fm289 (fr_m (fr_s Fm274 (fr_m (fr_s Fm257 (fr_m (fr_s Fm236 (fr_m (fr_s Fm209 (fr_m fr_0 rfl rfl) rfl rfl) rfl rfl) rfl rfl) rfl rfl) rfl rfl) rfl rfl) rfl rfl) rfl rfl) rfl rfl) rfl rfl) rfl rfl) rfl rfl) (show ∀ k, (m445.2 14) k + (m445.2 15) k ≤ 4000 by rewrite [(show (m445.2 14) = (m236.2 14) from ((fr2 Fm445 14 rfl).trans ((fr2 Fm289 14 rfl).trans ((fr2 Fm274 14 rfl).trans (fr2 Fm257 14 rfl))))), (show (m445.2 15) = (m236.2 15) from ((fr2 Fm445 15 rfl).trans ((fr2 Fm289 15 rfl).trans ((fr2 Fm274 15 rfl).trans (fr2 Fm257 15 rfl)))))]; first | exact hNM | (intro k; rw [hE1, hE2]; have := hNM0 k; have h7 := hLx1; unfold upI; split <;> omega)) (show (m.1 24) ≤ 15 by omega) (show 0 ≤ (m.1 24) ∧ (m.1 24) ≤ 16 by omega) (show 1 ≤ (m445.1 10) by omega)
                  · skip
                    clear c293
                    have hf461 : 1 ≤ (m289.1 10) := by omega
                    refine T_gf 253 (.int (i32 (m289.1 10))) rfl rfl rfl rfl rfl rfl ?_
                    refine T_if 274 256 rfl rfl rfl (r32 (by omega) (by omega)) (fun (h462 : (m289.1 10) ≠ 0) => ?_) (fun (h462 : ¬ ((m289.1 10) ≠ 0)) => by exfalso; omega)
                    refine T_gf 278 (.int (i32 (m289.1 10))) rfl rfl rfl rfl rfl rfl ?_
                    refine T_if 282 281 rfl rfl rfl (r32 (by omega) (by omega)) (fun (h463 : (m289.1 10) ≤ 0) => by exfalso; omega) (fun (h463 : ¬ ((m289.1 10) ≤ 0)) => ?_)
                    refine T_ret rfl (fun _ => rfl) ?_
                    exact ⟨(mO m289 [] []), Tm289, (fr_m (fr_s Fm289 (fr_m (fr_s Fm274 (fr_m (fr_s Fm257 (fr_m (fr_s Fm236 (fr_m (fr_s Fm209 (fr_m fr_0 rfl rfl) rfl rfl) rfl rfl) rfl rfl) rfl rfl) rfl rfl) rfl rfl) rfl rfl) rfl rfl) rfl rfl) rfl rfl), (show (m289.1 10) = 0 → (m.1 10) = 0 by omega), (show LxP (m289.1 7) (m289.1 8) (m289.1 9) (m.1 6) (m289.1 10) by first | (first | exact hLx | exact (fun _ => hLx (by omega)) | (intro h9; exfalso; omega)) | (exfalso; omega)), (show ∀ k, (m289.2 14) k + (m289.2 15) k ≤ 4000 by rewrite [(show (m289.2 14) = (m236.2 14) from ((fr2 Fm289 14 rfl).trans ((fr2 Fm274 14 rfl).trans (fr2 Fm257 14 rfl)))), (show (m289.2 15) = (m236.2 15) from ((fr2 Fm289 15 rfl).trans ((fr2 Fm274 15 rfl).trans (fr2 Fm257 15 rfl))))]; first | (first | exact hNM | (intro k; rw [hE1, hE2]; have := hNM k; have h7 := hLx0 hf0; unfold upI; split <;> omega)) | (exfalso; omega)), (fun (h : (m289.1 10) = 0) => absurd h (by omega)), rfl⟩
              refine Tm_lv (a := [(0, .ref 189), (1, .int (i32 so)), (2, .int (i32 v235)), (3, .int (i32 (m.1 24)))]) rfl rfl ⟨rfl, rfl, rfl, rfl, trivial⟩ ?_
              exact L249_290 ((1000000 * (8 - (m274.1 10)) + (4000 - (m274.1 8)) : Int) + 1).toNat (mO m274 [] []) Tm274 (fr_m fr_0 rfl rfl) (show LxP (m274.1 7) (m274.1 8) (m274.1 9) (m.1 6) (m274.1 10) by exact hLx) (fun _ => (show (m.1 8) + 1 ≤ (m274.1 8) by omega)) (show 1000000 * (8 - (m274.1 10)) + (4000 - (m274.1 8)) < ((((1000000 * (8 - (m274.1 10)) + (4000 - (m274.1 8)) : Int) + 1).toNat : Nat) : Int) by omega)
            · skip
              replace h275 : LxP (m274.1 7) (m274.1 8) (m274.1 9) (m257.1 6) (m274.1 10) := h275
              rewrite [(show (m257.1 6) = (m.1 6) from ((fr1 Fm257 6 rfl).trans ((fr1 Fm236 6 rfl).trans (fr1 Fm209 6 rfl))))] at h275
              have hLx := h275
              clear h276
              replace h277 : (m257.1 8) ≤ (m274.1 8) := h277
              clear h278
              have hf464 : 1 ≤ (m274.1 10) := by omega
              clear g262 g263 g264 g265 g266 h258 h260 u268 u269 h277
              refine Tm_lv (a := [(0, .ref 189), (3, .int (i32 (m.1 24)))]) rfl rfl ⟨rfl, rfl, trivial⟩ ?_
              exact J249_150 (mO m274 [] []) Tm274 (fr_m (fr_s Fm274 (fr_m (fr_s Fm257 (fr_m (fr_s Fm236 (fr_m (fr_s Fm209 (fr_m fr_0 rfl rfl) rfl rfl) rfl rfl) rfl rfl) rfl rfl) rfl rfl) rfl rfl) rfl rfl) rfl rfl) (show ∀ k, (m274.2 14) k + (m274.2 15) k ≤ 4000 by rewrite [(show (m274.2 14) = (m236.2 14) from ((fr2 Fm274 14 rfl).trans (fr2 Fm257 14 rfl))), (show (m274.2 15) = (m236.2 15) from ((fr2 Fm274 15 rfl).trans (fr2 Fm257 15 rfl)))]; first | exact hNM | (intro k; rw [hE1, hE2]; have := hNM0 k; have h7 := hLx1; unfold upI; split <;> omega)) (show (m.1 24) ≤ 15 by omega) (show 0 ≤ (m.1 24) ∧ (m.1 24) ≤ 16 by omega) (show 1 ≤ (m274.1 10) by omega)
          · skip
            replace h258 : LxP (m257.1 7) (m257.1 8) (m257.1 9) (m236.1 6) (m257.1 10) := h258
            rewrite [(show (m236.1 6) = (m.1 6) from ((fr1 Fm236 6 rfl).trans (fr1 Fm209 6 rfl)))] at h258
            have hLx := h258
            clear h259
            replace h260 : (m236.1 8) ≤ (m257.1 8) := h260
            rewrite [(show (m236.1 8) = (m209.1 8) from (fr1 Fm236 8 rfl))] at h260
            clear h261
            have hf465 : 1 ≤ (m257.1 10) := by omega
            clear g214 g216 g217 g218 h210 h224 h225 h229 q246_10 q246_11 ic238
            refine Tm_lv (a := [(0, .ref 189), (3, .int (i32 (m.1 24)))]) rfl rfl ⟨rfl, rfl, trivial⟩ ?_
            exact J243_160 (mO m257 [] []) Tm257 (fr_m (fr_s Fm257 (fr_m (fr_s Fm236 (fr_m (fr_s Fm209 (fr_m fr_0 rfl rfl) rfl rfl) rfl rfl) rfl rfl) rfl rfl) rfl rfl) rfl rfl) (show ∀ k, (m257.2 14) k + (m257.2 15) k ≤ 4000 by rewrite [(show (m257.2 14) = (m236.2 14) from (fr2 Fm257 14 rfl)), (show (m257.2 15) = (m236.2 15) from (fr2 Fm257 15 rfl))]; first | exact hNM | (intro k; rw [hE1, hE2]; have := hNM0 k; have h7 := hLx1; unfold upI; split <;> omega)) (show (m.1 24) ≤ 15 by omega) (show 0 ≤ (m.1 24) ∧ (m.1 24) ≤ 16 by omega) (show 1 ≤ (m257.1 10) by omega)
        refine T_ld 36 (.int (i32 so)) rfl (fun _ => rfl) ?_
        refine T_ld 37 (.int (i32 5)) rfl (fun _ => rfl) ?_
        refine T_icmp 87 40 rfl rfl rfl (r32 (by omega) (by omega)) ⟨by decide, by decide⟩ (fun (h466 : so ≠ 5) => ?_) (fun (h466 : ¬ (so ≠ 5)) => ?_)
        · skip
          refine T_ld 88 (.int (i32 so)) rfl (fun _ => rfl) ?_
          refine T_ld 89 (.int (i32 (-1))) rfl (fun _ => rfl) ?_
          refine T_icmp 113 92 rfl rfl rfl (r32 (by omega) (by omega)) ⟨by decide, by decide⟩ (fun (h467 : so ≠ (-1)) => ?_) (fun (h467 : ¬ (so ≠ (-1))) => ?_)
          · skip
            refine T_ld 114 (.int (i32 so)) rfl (fun _ => rfl) ?_
            refine T_ld 115 (.int (i32 (-1))) rfl (fun _ => rfl) ?_
            refine T_icmp 140 118 rfl rfl rfl (r32 (by omega) (by omega)) ⟨by decide, by decide⟩ (fun (h468 : so = (-1)) => ?_) (fun (h468 : ¬ (so = (-1))) => ?_)
            · skip
              refine T_gf 144 (.int (i32 (m209.1 10))) rfl rfl rfl rfl rfl rfl ?_
              refine T_if 148 147 rfl rfl rfl (r32 (by omega) (by omega)) (fun (h469 : (m209.1 10) ≤ 0) => ?_) (fun (h469 : ¬ ((m209.1 10) ≤ 0)) => by exfalso; omega)
              have hd15 : (m.1 24) ≤ 15 := by first | omega | (have := SOp_lt pSO (s := (m.1 23)) (by omega) (by omega) (by omega); omega)
              refine T_ld 149 (.int (i32 so)) rfl (fun _ => rfl) ?_
              refine T_ld 150 (.int (i32 (-1))) rfl (fun _ => rfl) ?_
              refine T_icmp 179 153 rfl rfl rfl (r32 (by omega) (by omega)) ⟨by decide, by decide⟩ (fun (h470 : so ≠ (-1)) => by exfalso; omega) (fun (h470 : ¬ (so ≠ (-1))) => ?_)
              refine T_gf 157 (.ref 207) rfl rfl rfl rfl rfl rfl ?_
              refine T_ld 158 (.int (i32 (m.1 23))) rfl (fun _ => rfl) ?_
              refine T_gf 162 (.int (i32 (m209.1 8))) rfl rfl rfl rfl rfl rfl ?_
              have G471 : ∀ j, 0 ≤ (upI (m.2 37) (m.1 23) (m209.1 8)) j ∧ (upI (m.2 37) (m.1 23) (m209.1 8)) j ≤ 4000 := upI_rg (hT.2.1 37) ⟨by omega, by omega⟩
              refine T_iast (a' := [(37, upI (m.2 37) (m.1 23) (m209.1 8))]) 163 37 (m.2 37) rfl rfl rfl (by omega) (show (m.1 23) < (16 : Int) by omega) (show (m209.2 37) = (m.2 37) from (fr2 Fm209 37 rfl)) rfl ?_
              refine T_ld 164 (.ref 189) rfl (fun _ => rfl) ?_
              refine T_ld 165 (.int (i32 5)) rfl (fun _ => rfl) ?_
              refine T_ld 166 (.int (i32 (m.1 23))) rfl (fun _ => rfl) ?_
              refine T_call 169 231 [.ref 189, .int (i32 5), .int (i32 (m.1 23))] [] rfl (fun _ => rfl) rfl (d_enter w (mO m209 [] [(37, upI (m.2 37) (m.1 23) (m209.1 8))]) c N D (by omega) (Ty_mO Tm209 rfl rfl trivial ⟨G471, trivial⟩) 5 (m.1 23) ⟨by decide, by decide⟩ (r32 (by omega) (by omega)) (show (m209.1 13) ≤ 119 by rewrite [(show (m209.1 13) = (m.1 13) from (fr1 Fm209 13 rfl))]; omega) (show 1 ≤ (5 : Int) ∧ (5 : Int) ≤ 7 by omega) (show 0 ≤ (m.1 23) ∧ (m.1 23) ≤ 15 by omega)) (fun rr472 k473 => ?_)
              obtain ⟨m474, Tm474, Fm474, h475, h476, h477, h478, h479, rfl⟩ := k473
              refine ⟨_, _, rfl, ?_⟩
              refine T_nb (st' := []) rfl ?_
              have g480 : 0 ≤ m474.1 13 ∧ m474.1 13 ≤ 120 := Tm474.1 13
              replace h475 : (m474.1 13) = (m209.1 13) + 1 := h475
              rewrite [(show (m209.1 13) = (m.1 13) from (fr1 Fm209 13 rfl))] at h475
              have hE0 := h475
              replace h476 : (m474.2 14) = upI (m209.2 14) (m209.1 13) (m209.1 8) := h476
              rewrite [(show (m209.2 14) = (m.2 14) from (fr2 Fm209 14 rfl)), (show (m209.1 13) = (m.1 13) from (fr1 Fm209 13 rfl))] at h476
              have hE1 := h476
              replace h477 : (m474.2 15) = upI (m209.2 15) (m209.1 13) (m209.1 9) := h477
              rewrite [(show (m209.2 15) = (m.2 15) from (fr2 Fm209 15 rfl)), (show (m209.1 13) = (m.1 13) from (fr1 Fm209 13 rfl))] at h477
              have hE2 := h477
              replace h478 : (m474.2 16) = upI (m209.2 16) (m209.1 13) (5 : Int) := h478
              rewrite [(show (m209.2 16) = (m.2 16) from (fr2 Fm209 16 rfl)), (show (m209.1 13) = (m.1 13) from (fr1 Fm209 13 rfl))] at h478
              have hE3 := h478
              replace h479 : (m474.2 17) = upI (m209.2 17) (m209.1 13) (m.1 23) := h479
              rewrite [(show (m209.2 17) = (m.2 17) from (fr2 Fm209 17 rfl)), (show (m209.1 13) = (m.1 13) from (fr1 Fm209 13 rfl))] at h479
              have hE4 := h479
              have u481 : (m.1 8) + 1 ≤ (m209.1 8) := by omega
              have u482 : (m.1 8) + 1 ≤ (m209.1 8) := by omega
              have u483 : (m.1 23) ≤ (m.1 23) := by omega
              have u484 : (m.1 28) ≤ (m.1 28) := by omega
              refine T_ld 170 (.ref 189) rfl (fun _ => rfl) ?_
              refine T_ld 171 (.ref 189) rfl (fun _ => rfl) ?_
              refine T_gf1 174 (.int (i32 (m.1 23))) rfl rfl (mfv_c (F := fun x => .int (i32 x)) rfl (show (m474.1 23) = (m.1 23) from ((fr1 Fm474 23 rfl).trans (fr1 Fm209 23 rfl)))) rfl ?_
              refine T_ld 175 (.int (i32 1)) rfl (fun _ => rfl) ?_
              refine T_iadd 176 rfl rfl ?_
              refine T_pf (l' := [(23, (m.1 23) + 1)]) 179 ((m.1 23) + 1) rfl rfl rfl rfl rfl rfl ?_
              have g485 : 0 ≤ (m.1 23) + 1 ∧ (m.1 23) + 1 ≤ 16 := ⟨by omega, by omega⟩
              refine Tm_lv (a := [(0, .ref 189), (1, .int (i32 so)), (2, .int (i32 (m.1 23)))]) rfl rfl ⟨rfl, rfl, rfl, trivial⟩ ?_
              exact J179_237 (m.1 23) (mO m474 [(23, (m.1 23) + 1)] []) (r32 (by omega) (by omega)) (Ty_mO Tm474 rfl rfl ⟨g485, trivial⟩ trivial) (fr_m (fr_s Fm474 (fr_m fr_0 rfl rfl) rfl rfl) rfl rfl) (show (m474.1 10) = 0 by rewrite [(show (m474.1 10) = (m209.1 10) from (fr1 Fm474 10 rfl))]; omega) (show ∀ k, (m474.2 14) k + (m474.2 15) k ≤ 4000 by first | exact hNM | (intro k; rw [hE1, hE2]; have := hNM k; unfold upI; split <;> omega)) (show SOp (upI (m.2 38) (m.1 23) (m.1 24)) ((m.1 23) + 1) ((m.1 24) + 1) by first | exact SOp_dec pSO (by omega) (by omega) (by omega) | exact SOp_nd pSO) (show PN (m474.1 13) (m.1 19) (m.1 20) (m.1 21) (m.1 22) ((m.1 23) + 1) (m.1 25) (m.1 26) (m474.2 16) (m474.2 17) by first | exact pPN | (rw [hE0, hE3, hE4]; exact PN_5 pPN (by omega))) (show 0 ≤ (m.1 23) ∧ (m.1 23) ≤ 15 by omega) (show (m.1 24) ≤ 15 by omega) (show (m.1 23) ≤ ((m.1 23) + 1) by omega)
            · skip
              refine T_ld 119 (.ref 189) rfl (fun _ => rfl) ?_
              refine T_gf 123 (.int (i32 (m.1 23))) rfl rfl rfl rfl (mfv_c (F := fun x => .int (i32 x)) rfl (show (m209.1 23) = (m.1 23) from (fr1 Fm209 23 rfl))) rfl ?_
              refine T_ld 125 (.int (i32 16)) rfl (fun _ => rfl) ?_
              refine T_icmp 132 128 rfl rfl rfl (r32 (by omega) (by omega)) ⟨by decide, by decide⟩ (fun (h486 : (m.1 23) ≠ 16) => ?_) (fun (h486 : ¬ ((m.1 23) ≠ 16)) => ?_)
              · skip
                refine T_ld 133 (.int (i32 3)) rfl (fun _ => rfl) ?_
                refine T_gf 137 (.int (i32 (m209.1 8))) rfl rfl rfl rfl rfl rfl ?_
                refine T_call 140 222 [.ref 189, .int (i32 3), .int (i32 (m209.1 8))] [] rfl (fun _ => rfl) rfl (d_wrong w (mO m209 [] []) c N D (by omega) Tm209 3 (m209.1 8) ⟨by decide, by decide⟩ (r32 (by omega) (by omega)) (show 1 ≤ (3 : Int) ∧ (3 : Int) ≤ 8 by omega) (show 0 ≤ (m209.1 8) ∧ (m209.1 8) ≤ 4000 by omega)) (fun rr487 k488 => ?_)
                obtain ⟨m489, Tm489, Fm489, h490, rfl⟩ := k488
                refine ⟨_, _, rfl, ?_⟩
                refine T_nb (st' := []) rfl ?_
                have g491 : 0 ≤ m489.1 10 ∧ m489.1 10 ≤ 8 := Tm489.1 10
                have g492 : (-1) ≤ m489.1 11 ∧ m489.1 11 ≤ 4000 := Tm489.1 11
                replace h490 : (0 < (m209.1 10) → (m489.1 10) = (m209.1 10) ∧ (m489.1 11) = (m209.1 11)) ∧ ((m209.1 10) ≤ 0 → (m489.1 10) = (3 : Int) ∧ (m489.1 11) = (m209.1 8)) := h490
                have hf493 : 1 ≤ (m489.1 10) := by omega
                clear g217 g218 h210 h224 h490
                refine Tm_lv (a := [(0, .ref 189), (1, .int (i32 so)), (2, .int (i32 (m.1 23)))]) rfl rfl ⟨rfl, rfl, rfl, trivial⟩ ?_
                exact J140_182 so (mO m489 [] []) (r32 (by omega) (by omega)) Tm489 (fr_m (fr_s Fm489 (fr_m (fr_s Fm209 (fr_m fr_0 rfl rfl) rfl rfl) rfl rfl) rfl rfl) rfl rfl) (show (-2147483648) ≤ so by omega) (show so ≤ 2147483647 by omega) (show ∀ k, (m.2 14) k + (m.2 15) k ≤ 4000 by first | exact hNM | (intro k; rw [hE1, hE2]; have := hNM0 k; have h7 := hLx1; unfold upI; split <;> omega)) (show 0 ≤ (m.1 23) ∧ (m.1 23) ≤ 16 by omega) (show 1 ≤ (m489.1 10) by omega)
              · skip
                refine T_ld 129 (.int (i32 4)) rfl (fun _ => rfl) ?_
                refine T_goto 133 rfl (fun _ => rfl) ?_
                refine T_gf 137 (.int (i32 (m209.1 8))) rfl rfl rfl rfl rfl rfl ?_
                refine T_call 140 222 [.ref 189, .int (i32 4), .int (i32 (m209.1 8))] [] rfl (fun _ => rfl) rfl (d_wrong w (mO m209 [] []) c N D (by omega) Tm209 4 (m209.1 8) ⟨by decide, by decide⟩ (r32 (by omega) (by omega)) (show 1 ≤ (4 : Int) ∧ (4 : Int) ≤ 8 by omega) (show 0 ≤ (m209.1 8) ∧ (m209.1 8) ≤ 4000 by omega)) (fun rr494 k495 => ?_)
                obtain ⟨m496, Tm496, Fm496, h497, rfl⟩ := k495
                refine ⟨_, _, rfl, ?_⟩
                refine T_nb (st' := []) rfl ?_
                have g498 : 0 ≤ m496.1 10 ∧ m496.1 10 ≤ 8 := Tm496.1 10
                have g499 : (-1) ≤ m496.1 11 ∧ m496.1 11 ≤ 4000 := Tm496.1 11
                replace h497 : (0 < (m209.1 10) → (m496.1 10) = (m209.1 10) ∧ (m496.1 11) = (m209.1 11)) ∧ ((m209.1 10) ≤ 0 → (m496.1 10) = (4 : Int) ∧ (m496.1 11) = (m209.1 8)) := h497
                have hf500 : 1 ≤ (m496.1 10) := by omega
                clear g217 g218 h210 h224 h497
                refine Tm_lv (a := [(0, .ref 189), (1, .int (i32 so)), (2, .int (i32 (m.1 23)))]) rfl rfl ⟨rfl, rfl, rfl, trivial⟩ ?_
                exact J140_182 so (mO m496 [] []) (r32 (by omega) (by omega)) Tm496 (fr_m (fr_s Fm496 (fr_m (fr_s Fm209 (fr_m fr_0 rfl rfl) rfl rfl) rfl rfl) rfl rfl) rfl rfl) (show (-2147483648) ≤ so by omega) (show so ≤ 2147483647 by omega) (show ∀ k, (m.2 14) k + (m.2 15) k ≤ 4000 by first | exact hNM | (intro k; rw [hE1, hE2]; have := hNM0 k; have h7 := hLx1; unfold upI; split <;> omega)) (show 0 ≤ (m.1 23) ∧ (m.1 23) ≤ 16 by omega) (show 1 ≤ (m496.1 10) by omega)
          · skip
            refine T_gf 96 (.int (i32 (m.1 23))) rfl rfl rfl rfl (mfv_c (F := fun x => .int (i32 x)) rfl (show (m209.1 23) = (m.1 23) from (fr1 Fm209 23 rfl))) rfl ?_
            refine T_ld 98 (.int (i32 16)) rfl (fun _ => rfl) ?_
            refine T_icmp 113 101 rfl rfl rfl (r32 (by omega) (by omega)) ⟨by decide, by decide⟩ (fun (h501 : (m.1 23) ≠ 16) => ?_) (fun (h501 : ¬ ((m.1 23) ≠ 16)) => ?_)
            · skip
              refine T_ld 114 (.int (i32 so)) rfl (fun _ => rfl) ?_
              refine T_ld 115 (.int (i32 (-1))) rfl (fun _ => rfl) ?_
              refine T_icmp 140 118 rfl rfl rfl (r32 (by omega) (by omega)) ⟨by decide, by decide⟩ (fun (h502 : so = (-1)) => ?_) (fun (h502 : ¬ (so = (-1))) => by exfalso; omega)
              refine T_gf 144 (.int (i32 (m209.1 10))) rfl rfl rfl rfl rfl rfl ?_
              refine T_if 148 147 rfl rfl rfl (r32 (by omega) (by omega)) (fun (h503 : (m209.1 10) ≤ 0) => ?_) (fun (h503 : ¬ ((m209.1 10) ≤ 0)) => by exfalso; omega)
              have hd15 : (m.1 24) ≤ 15 := by first | omega | (have := SOp_lt pSO (s := (m.1 23)) (by omega) (by omega) (by omega); omega)
              refine T_ld 149 (.int (i32 so)) rfl (fun _ => rfl) ?_
              refine T_ld 150 (.int (i32 (-1))) rfl (fun _ => rfl) ?_
              refine T_icmp 179 153 rfl rfl rfl (r32 (by omega) (by omega)) ⟨by decide, by decide⟩ (fun (h504 : so ≠ (-1)) => by exfalso; omega) (fun (h504 : ¬ (so ≠ (-1))) => ?_)
              refine T_gf 157 (.ref 207) rfl rfl rfl rfl rfl rfl ?_
              refine T_ld 158 (.int (i32 (m.1 23))) rfl (fun _ => rfl) ?_
              refine T_gf 162 (.int (i32 (m209.1 8))) rfl rfl rfl rfl rfl rfl ?_
              have G505 : ∀ j, 0 ≤ (upI (m.2 37) (m.1 23) (m209.1 8)) j ∧ (upI (m.2 37) (m.1 23) (m209.1 8)) j ≤ 4000 := upI_rg (hT.2.1 37) ⟨by omega, by omega⟩
              refine T_iast (a' := [(37, upI (m.2 37) (m.1 23) (m209.1 8))]) 163 37 (m.2 37) rfl rfl rfl (by omega) (show (m.1 23) < (16 : Int) by omega) (show (m209.2 37) = (m.2 37) from (fr2 Fm209 37 rfl)) rfl ?_
              refine T_ld 164 (.ref 189) rfl (fun _ => rfl) ?_
              refine T_ld 165 (.int (i32 5)) rfl (fun _ => rfl) ?_
              refine T_ld 166 (.int (i32 (m.1 23))) rfl (fun _ => rfl) ?_
              refine T_call 169 231 [.ref 189, .int (i32 5), .int (i32 (m.1 23))] [] rfl (fun _ => rfl) rfl (d_enter w (mO m209 [] [(37, upI (m.2 37) (m.1 23) (m209.1 8))]) c N D (by omega) (Ty_mO Tm209 rfl rfl trivial ⟨G505, trivial⟩) 5 (m.1 23) ⟨by decide, by decide⟩ (r32 (by omega) (by omega)) (show (m209.1 13) ≤ 119 by rewrite [(show (m209.1 13) = (m.1 13) from (fr1 Fm209 13 rfl))]; omega) (show 1 ≤ (5 : Int) ∧ (5 : Int) ≤ 7 by omega) (show 0 ≤ (m.1 23) ∧ (m.1 23) ≤ 15 by omega)) (fun rr506 k507 => ?_)
              obtain ⟨m508, Tm508, Fm508, h509, h510, h511, h512, h513, rfl⟩ := k507
              refine ⟨_, _, rfl, ?_⟩
              refine T_nb (st' := []) rfl ?_
              have g514 : 0 ≤ m508.1 13 ∧ m508.1 13 ≤ 120 := Tm508.1 13
              replace h509 : (m508.1 13) = (m209.1 13) + 1 := h509
              rewrite [(show (m209.1 13) = (m.1 13) from (fr1 Fm209 13 rfl))] at h509
              have hE0 := h509
              replace h510 : (m508.2 14) = upI (m209.2 14) (m209.1 13) (m209.1 8) := h510
              rewrite [(show (m209.2 14) = (m.2 14) from (fr2 Fm209 14 rfl)), (show (m209.1 13) = (m.1 13) from (fr1 Fm209 13 rfl))] at h510
              have hE1 := h510
              replace h511 : (m508.2 15) = upI (m209.2 15) (m209.1 13) (m209.1 9) := h511
              rewrite [(show (m209.2 15) = (m.2 15) from (fr2 Fm209 15 rfl)), (show (m209.1 13) = (m.1 13) from (fr1 Fm209 13 rfl))] at h511
              have hE2 := h511
              replace h512 : (m508.2 16) = upI (m209.2 16) (m209.1 13) (5 : Int) := h512
              rewrite [(show (m209.2 16) = (m.2 16) from (fr2 Fm209 16 rfl)), (show (m209.1 13) = (m.1 13) from (fr1 Fm209 13 rfl))] at h512
              have hE3 := h512
              replace h513 : (m508.2 17) = upI (m209.2 17) (m209.1 13) (m.1 23) := h513
              rewrite [(show (m209.2 17) = (m.2 17) from (fr2 Fm209 17 rfl)), (show (m209.1 13) = (m.1 13) from (fr1 Fm209 13 rfl))] at h513
              have hE4 := h513
              have u515 : (m.1 8) + 1 ≤ (m209.1 8) := by omega
              have u516 : (m.1 8) + 1 ≤ (m209.1 8) := by omega
              have u517 : (m.1 23) ≤ (m.1 23) := by omega
              have u518 : (m.1 28) ≤ (m.1 28) := by omega
              refine T_ld 170 (.ref 189) rfl (fun _ => rfl) ?_
              refine T_ld 171 (.ref 189) rfl (fun _ => rfl) ?_
              refine T_gf1 174 (.int (i32 (m.1 23))) rfl rfl (mfv_c (F := fun x => .int (i32 x)) rfl (show (m508.1 23) = (m.1 23) from ((fr1 Fm508 23 rfl).trans (fr1 Fm209 23 rfl)))) rfl ?_
              refine T_ld 175 (.int (i32 1)) rfl (fun _ => rfl) ?_
              refine T_iadd 176 rfl rfl ?_
              refine T_pf (l' := [(23, (m.1 23) + 1)]) 179 ((m.1 23) + 1) rfl rfl rfl rfl rfl rfl ?_
              have g519 : 0 ≤ (m.1 23) + 1 ∧ (m.1 23) + 1 ≤ 16 := ⟨by omega, by omega⟩
              refine Tm_lv (a := [(0, .ref 189), (1, .int (i32 so)), (2, .int (i32 (m.1 23)))]) rfl rfl ⟨rfl, rfl, rfl, trivial⟩ ?_
              exact J179_237 (m.1 23) (mO m508 [(23, (m.1 23) + 1)] []) (r32 (by omega) (by omega)) (Ty_mO Tm508 rfl rfl ⟨g519, trivial⟩ trivial) (fr_m (fr_s Fm508 (fr_m fr_0 rfl rfl) rfl rfl) rfl rfl) (show (m508.1 10) = 0 by rewrite [(show (m508.1 10) = (m209.1 10) from (fr1 Fm508 10 rfl))]; omega) (show ∀ k, (m508.2 14) k + (m508.2 15) k ≤ 4000 by first | exact hNM | (intro k; rw [hE1, hE2]; have := hNM k; unfold upI; split <;> omega)) (show SOp (upI (m.2 38) (m.1 23) (m.1 24)) ((m.1 23) + 1) ((m.1 24) + 1) by first | exact SOp_dec pSO (by omega) (by omega) (by omega) | exact SOp_nd pSO) (show PN (m508.1 13) (m.1 19) (m.1 20) (m.1 21) (m.1 22) ((m.1 23) + 1) (m.1 25) (m.1 26) (m508.2 16) (m508.2 17) by first | exact pPN | (rw [hE0, hE3, hE4]; exact PN_5 pPN (by omega))) (show 0 ≤ (m.1 23) ∧ (m.1 23) ≤ 15 by omega) (show (m.1 24) ≤ 15 by omega) (show (m.1 23) ≤ ((m.1 23) + 1) by omega)
            · skip
              refine T_ld 102 (.ref 189) rfl (fun _ => rfl) ?_
              refine T_ld 103 (.int (i32 4)) rfl (fun _ => rfl) ?_
              refine T_gf 107 (.int (i32 (m209.1 8))) rfl rfl rfl rfl rfl rfl ?_
              refine T_call 110 222 [.ref 189, .int (i32 4), .int (i32 (m209.1 8))] [] rfl (fun _ => rfl) rfl (d_wrong w (mO m209 [] []) c N D (by omega) Tm209 4 (m209.1 8) ⟨by decide, by decide⟩ (r32 (by omega) (by omega)) (show 1 ≤ (4 : Int) ∧ (4 : Int) ≤ 8 by omega) (show 0 ≤ (m209.1 8) ∧ (m209.1 8) ≤ 4000 by omega)) (fun rr520 k521 => ?_)
              obtain ⟨m522, Tm522, Fm522, h523, rfl⟩ := k521
              refine ⟨_, _, rfl, ?_⟩
              refine T_nb (st' := []) rfl ?_
              have g524 : 0 ≤ m522.1 10 ∧ m522.1 10 ≤ 8 := Tm522.1 10
              have g525 : (-1) ≤ m522.1 11 ∧ m522.1 11 ≤ 4000 := Tm522.1 11
              replace h523 : (0 < (m209.1 10) → (m522.1 10) = (m209.1 10) ∧ (m522.1 11) = (m209.1 11)) ∧ ((m209.1 10) ≤ 0 → (m522.1 10) = (4 : Int) ∧ (m522.1 11) = (m209.1 8)) := h523
              have hf526 : 1 ≤ (m522.1 10) := by omega
              clear g217 g218 h210 h224 h523
              refine T_goto 140 rfl (fun _ => rfl) ?_
              refine T_gf 144 (.int (i32 (m522.1 10))) rfl rfl rfl rfl rfl rfl ?_
              refine T_if 148 147 rfl rfl rfl (r32 (by omega) (by omega)) (fun (h527 : (m522.1 10) ≤ 0) => by exfalso; omega) (fun (h527 : ¬ ((m522.1 10) ≤ 0)) => ?_)
              refine T_ret rfl (fun _ => rfl) ?_
              exact ⟨(mO m522 [] []), Tm522, (fr_m (fr_s Fm522 (fr_m (fr_s Fm209 (fr_m fr_0 rfl rfl) rfl rfl) rfl rfl) rfl rfl) rfl rfl), (show (m522.1 10) = 0 → (m.1 10) = 0 by omega), (show LxP (m522.1 7) (m522.1 8) (m522.1 9) (m.1 6) (m522.1 10) by rewrite [(show (m522.1 7) = (m209.1 7) from (fr1 Fm522 7 rfl)), (show (m522.1 8) = (m209.1 8) from (fr1 Fm522 8 rfl)), (show (m522.1 9) = (m209.1 9) from (fr1 Fm522 9 rfl))]; first | (first | exact hLx | exact (fun _ => hLx (by omega)) | (intro h9; exfalso; omega)) | (exfalso; omega)), (show ∀ k, (m522.2 14) k + (m522.2 15) k ≤ 4000 by rewrite [(show (m522.2 14) = (m.2 14) from ((fr2 Fm522 14 rfl).trans (fr2 Fm209 14 rfl))), (show (m522.2 15) = (m.2 15) from ((fr2 Fm522 15 rfl).trans (fr2 Fm209 15 rfl)))]; first | (first | exact hNM | (intro k; rw [hE1, hE2]; have := hNM k; have h7 := hLx0 hf0; unfold upI; split <;> omega)) | (exfalso; omega)), (fun (h : (m522.1 10) = 0) => absurd h (by omega)), rfl⟩
        · skip
          refine T_ld 41 (.ref 189) rfl (fun _ => rfl) ?_
          refine T_call 44 237 [.ref 189] [] rfl (fun _ => rfl) rfl (d_whichHere w (mO m209 [] []) c N D (by omega) Tm209 (show 1 ≤ (m209.1 9) ∧ (m209.1 8) + (m209.1 9) ≤ (m209.1 6) by rewrite [(show (m209.1 6) = (m.1 6) from (fr1 Fm209 6 rfl))]; first | omega | (have h8 := hLx (by omega); omega)) (show ∀ k, (m209.2 14) k + (m209.2 15) k ≤ 4000 by rewrite [(show (m209.2 14) = (m.2 14) from (fr2 Fm209 14 rfl)), (show (m209.2 15) = (m.2 15) from (fr2 Fm209 15 rfl))]; first | exact hNM | exact p1) (show ∀ g k, isGH (m209.2 4) (m209.1 8) (m209.1 9) g → g < 0 → isFH (m209.2 4) (m209.2 14) (m209.2 15) (m209.1 8) (m209.1 9) (m209.1 13) k → 0 ≤ k by rewrite [(show (m209.2 4) = (m.2 4) from (fr2 Fm209 4 rfl)), (show (m209.2 14) = (m.2 14) from (fr2 Fm209 14 rfl)), (show (m209.2 15) = (m.2 15) from (fr2 Fm209 15 rfl)), (show (m209.1 13) = (m.1 13) from (fr1 Fm209 13 rfl))]; exact old_ok hSo (by omega))) (fun rr528 k529 => ?_)
          obtain ⟨wi, g530, h531, rfl⟩ := k529
          refine ⟨_, _, rfl, ?_⟩
          refine T_ns (st' := [.int (i32 wi)]) rfl ?_
          obtain ⟨g530a, g530b⟩ := g530
          replace h531 : ∃ g k, isGH (m209.2 4) (m209.1 8) (m209.1 9) g ∧ (g < 0 → isFH (m209.2 4) (m209.2 14) (m209.2 15) (m209.1 8) (m209.1 9) (m209.1 13) k) ∧ wi = whichV (m209.2 17) g k := h531
          rewrite [(show (m209.2 4) = (m.2 4) from (fr2 Fm209 4 rfl)), (show (m209.2 14) = (m.2 14) from (fr2 Fm209 14 rfl)), (show (m209.2 15) = (m.2 15) from (fr2 Fm209 15 rfl)), (show (m209.1 13) = (m.1 13) from (fr1 Fm209 13 rfl)), (show (m209.2 17) = (m.2 17) from (fr2 Fm209 17 rfl))] at h531
          have hWi := h531
          have u532 : (m.1 8) + 1 ≤ (m209.1 8) := by omega
          have u533 : (m.1 8) + 1 ≤ (m209.1 8) := by omega
          have u534 : (m.1 23) ≤ (m.1 23) := by omega
          have u535 : (m.1 28) ≤ (m.1 28) := by omega
          have hr5 : -2 ≤ wi ∧ wi < (m.1 23) := by
            rcases old_eq hSo hWi (by omega) with ⟨a, b, c⟩ | ⟨a, b⟩ | ⟨k, a, b, c, d⟩
            · omega
            · omega
            · have := PNl_5 pPN k a b (by omega)
              omega
          refine T_sto 45 [(2, .int (i32 wi)), (1, .int (i32 so)), (0, .ref 189)] rfl (fun _ => rfl) ?_
          refine T_ld 46 (.int (i32 wi)) rfl (fun _ => rfl) ?_
          refine T_if 58 49 rfl rfl rfl (r32 (by omega) (by omega)) (fun (h536 : wi < 0) => ?_) (fun (h536 : ¬ (wi < 0)) => ?_)
          · skip
            refine T_ld 59 (.ref 189) rfl (fun _ => rfl) ?_
            refine T_ld 60 (.int (i32 wi)) rfl (fun _ => rfl) ?_
            refine T_if 76 63 rfl rfl rfl (r32 (by omega) (by omega)) (fun (h537 : (0 : Int) ≤ wi) => by exfalso; omega) (fun (h537 : ¬ ((0 : Int) ≤ wi)) => ?_)
            refine T_gf 67 (.int (i32 (m.1 23))) rfl rfl rfl rfl (mfv_c (F := fun x => .int (i32 x)) rfl (show (m209.1 23) = (m.1 23) from (fr1 Fm209 23 rfl))) rfl ?_
            refine T_ld 69 (.int (i32 16)) rfl (fun _ => rfl) ?_
            refine T_icmp 76 72 rfl rfl rfl (r32 (by omega) (by omega)) ⟨by decide, by decide⟩ (fun (h538 : (m.1 23) ≠ 16) => ?_) (fun (h538 : ¬ ((m.1 23) ≠ 16)) => ?_)
            · skip
              refine T_ld 77 (.int (i32 3)) rfl (fun _ => rfl) ?_
              refine T_gf 81 (.int (i32 (m209.1 8))) rfl rfl rfl rfl rfl rfl ?_
              refine T_call 84 222 [.ref 189, .int (i32 3), .int (i32 (m209.1 8))] [] rfl (fun _ => rfl) rfl (d_wrong w (mO m209 [] []) c N D (by omega) Tm209 3 (m209.1 8) ⟨by decide, by decide⟩ (r32 (by omega) (by omega)) (show 1 ≤ (3 : Int) ∧ (3 : Int) ≤ 8 by omega) (show 0 ≤ (m209.1 8) ∧ (m209.1 8) ≤ 4000 by omega)) (fun rr539 k540 => ?_)
              obtain ⟨m541, Tm541, Fm541, h542, rfl⟩ := k540
              refine ⟨_, _, rfl, ?_⟩
              refine T_nb (st' := []) rfl ?_
              have g543 : 0 ≤ m541.1 10 ∧ m541.1 10 ≤ 8 := Tm541.1 10
              have g544 : (-1) ≤ m541.1 11 ∧ m541.1 11 ≤ 4000 := Tm541.1 11
              replace h542 : (0 < (m209.1 10) → (m541.1 10) = (m209.1 10) ∧ (m541.1 11) = (m209.1 11)) ∧ ((m209.1 10) ≤ 0 → (m541.1 10) = (3 : Int) ∧ (m541.1 11) = (m209.1 8)) := h542
              have hf545 : 1 ≤ (m541.1 10) := by omega
              clear g217 g218 h210 h224 h542
              refine Tm_lv (a := [(0, .ref 189), (1, .int (i32 so)), (2, .int (i32 wi))]) rfl rfl ⟨rfl, rfl, rfl, trivial⟩ ?_
              exact J84_195 so wi (mO m541 [] []) (r32 (by omega) (by omega)) (r32 (by omega) (by omega)) Tm541 (fr_m (fr_s Fm541 (fr_m (fr_s Fm209 (fr_m fr_0 rfl rfl) rfl rfl) rfl rfl) rfl rfl) rfl rfl) (show 5 ≤ so by omega) (show so ≤ 5 by omega) (show (-2147483648) ≤ wi by omega) (show wi ≤ 2147483647 by omega) (show ∀ k, (m.2 14) k + (m.2 15) k ≤ 4000 by first | exact hNM | (intro k; rw [hE1, hE2]; have := hNM0 k; have h7 := hLx1; unfold upI; split <;> omega)) (show 1 ≤ (m541.1 10) by omega)
            · skip
              refine T_ld 73 (.int (i32 4)) rfl (fun _ => rfl) ?_
              refine T_goto 77 rfl (fun _ => rfl) ?_
              refine T_gf 81 (.int (i32 (m209.1 8))) rfl rfl rfl rfl rfl rfl ?_
              refine T_call 84 222 [.ref 189, .int (i32 4), .int (i32 (m209.1 8))] [] rfl (fun _ => rfl) rfl (d_wrong w (mO m209 [] []) c N D (by omega) Tm209 4 (m209.1 8) ⟨by decide, by decide⟩ (r32 (by omega) (by omega)) (show 1 ≤ (4 : Int) ∧ (4 : Int) ≤ 8 by omega) (show 0 ≤ (m209.1 8) ∧ (m209.1 8) ≤ 4000 by omega)) (fun rr546 k547 => ?_)
              obtain ⟨m548, Tm548, Fm548, h549, rfl⟩ := k547
              refine ⟨_, _, rfl, ?_⟩
              refine T_nb (st' := []) rfl ?_
              have g550 : 0 ≤ m548.1 10 ∧ m548.1 10 ≤ 8 := Tm548.1 10
              have g551 : (-1) ≤ m548.1 11 ∧ m548.1 11 ≤ 4000 := Tm548.1 11
              replace h549 : (0 < (m209.1 10) → (m548.1 10) = (m209.1 10) ∧ (m548.1 11) = (m209.1 11)) ∧ ((m209.1 10) ≤ 0 → (m548.1 10) = (4 : Int) ∧ (m548.1 11) = (m209.1 8)) := h549
              have hf552 : 1 ≤ (m548.1 10) := by omega
              clear g217 g218 h210 h224 h549
              refine Tm_lv (a := [(0, .ref 189), (1, .int (i32 so)), (2, .int (i32 wi))]) rfl rfl ⟨rfl, rfl, rfl, trivial⟩ ?_
              exact J84_195 so wi (mO m548 [] []) (r32 (by omega) (by omega)) (r32 (by omega) (by omega)) Tm548 (fr_m (fr_s Fm548 (fr_m (fr_s Fm209 (fr_m fr_0 rfl rfl) rfl rfl) rfl rfl) rfl rfl) rfl rfl) (show 5 ≤ so by omega) (show so ≤ 5 by omega) (show (-2147483648) ≤ wi by omega) (show wi ≤ 2147483647 by omega) (show ∀ k, (m.2 14) k + (m.2 15) k ≤ 4000 by first | exact hNM | (intro k; rw [hE1, hE2]; have := hNM0 k; have h7 := hLx1; unfold upI; split <;> omega)) (show 1 ≤ (m548.1 10) by omega)
          · skip
            refine T_gf 53 (.ref 208) rfl rfl rfl rfl rfl rfl ?_
            refine T_ld 54 (.int (i32 wi)) rfl (fun _ => rfl) ?_
            refine T_iald 55 38 (m.2 38) rfl rfl rfl (by omega) (show wi < (16 : Int) by omega) (show (m209.2 38) = (m.2 38) from (fr2 Fm209 38 rfl)) ?_
            have e553 : (-1) ≤ (m.2 38) wi ∧ (m.2 38) wi ≤ 15 := (hT.2.1 38) wi
            refine T_if 140 58 rfl rfl rfl (r32 (by omega) (by omega)) (fun (h554 : (m.2 38) wi < 0) => ?_) (fun (h554 : ¬ ((m.2 38) wi < 0)) => ?_)
            · skip
              refine T_gf 144 (.int (i32 (m209.1 10))) rfl rfl rfl rfl rfl rfl ?_
              refine T_if 148 147 rfl rfl rfl (r32 (by omega) (by omega)) (fun (h555 : (m209.1 10) ≤ 0) => ?_) (fun (h555 : ¬ ((m209.1 10) ≤ 0)) => by exfalso; omega)
              have hd15 : (m.1 24) ≤ 15 := by first | omega | (have := SOp_lt pSO (s := wi) (by omega) (by omega) (by omega); omega)
              refine T_ld 149 (.int (i32 so)) rfl (fun _ => rfl) ?_
              refine T_ld 150 (.int (i32 (-1))) rfl (fun _ => rfl) ?_
              refine T_icmp 179 153 rfl rfl rfl (r32 (by omega) (by omega)) ⟨by decide, by decide⟩ (fun (h556 : so ≠ (-1)) => ?_) (fun (h556 : ¬ (so ≠ (-1))) => by exfalso; omega)
              refine Tm_lv (a := [(0, .ref 189), (1, .int (i32 so)), (2, .int (i32 wi))]) rfl rfl ⟨rfl, rfl, rfl, trivial⟩ ?_
              exact J179_237 wi (mO m209 [] []) (r32 (by omega) (by omega)) Tm209 (fr_m fr_0 rfl rfl) (show (m209.1 10) = 0 by omega) (show ∀ k, (m209.2 14) k + (m209.2 15) k ≤ 4000 by rewrite [(show (m209.2 14) = (m.2 14) from (fr2 Fm209 14 rfl)), (show (m209.2 15) = (m.2 15) from (fr2 Fm209 15 rfl))]; first | exact hNM | (intro k; rw [hE1, hE2]; have := hNM k; unfold upI; split <;> omega)) (show SOp (upI (m.2 38) wi (m.1 24)) (m209.1 23) ((m.1 24) + 1) by rewrite [(show (m209.1 23) = (m.1 23) from (fr1 Fm209 23 rfl))]; first | exact SOp_dec pSO (by omega) (by omega) (by omega) | exact SOp_nd pSO) (show PN (m209.1 13) (m.1 19) (m.1 20) (m.1 21) (m.1 22) (m209.1 23) (m.1 25) (m.1 26) (m209.2 16) (m209.2 17) by rewrite [(show (m209.1 13) = (m.1 13) from (fr1 Fm209 13 rfl)), (show (m209.1 23) = (m.1 23) from (fr1 Fm209 23 rfl)), (show (m209.2 16) = (m.2 16) from (fr2 Fm209 16 rfl)), (show (m209.2 17) = (m.2 17) from (fr2 Fm209 17 rfl))]; first | exact pPN | (rw [hE0, hE3, hE4]; exact PN_5 pPN (by omega))) (show 0 ≤ wi ∧ wi ≤ 15 by omega) (show (m.1 24) ≤ 15 by omega) (show (m.1 23) ≤ (m209.1 23) by rewrite [(show (m209.1 23) = (m.1 23) from (fr1 Fm209 23 rfl))]; omega)
            · skip
              refine T_ld 59 (.ref 189) rfl (fun _ => rfl) ?_
              refine T_ld 60 (.int (i32 wi)) rfl (fun _ => rfl) ?_
              refine T_if 76 63 rfl rfl rfl (r32 (by omega) (by omega)) (fun (h557 : (0 : Int) ≤ wi) => ?_) (fun (h557 : ¬ ((0 : Int) ≤ wi)) => by exfalso; omega)
              refine T_ld 77 (.int (i32 3)) rfl (fun _ => rfl) ?_
              refine T_gf 81 (.int (i32 (m209.1 8))) rfl rfl rfl rfl rfl rfl ?_
              refine T_call 84 222 [.ref 189, .int (i32 3), .int (i32 (m209.1 8))] [] rfl (fun _ => rfl) rfl (d_wrong w (mO m209 [] []) c N D (by omega) Tm209 3 (m209.1 8) ⟨by decide, by decide⟩ (r32 (by omega) (by omega)) (show 1 ≤ (3 : Int) ∧ (3 : Int) ≤ 8 by omega) (show 0 ≤ (m209.1 8) ∧ (m209.1 8) ≤ 4000 by omega)) (fun rr558 k559 => ?_)
              obtain ⟨m560, Tm560, Fm560, h561, rfl⟩ := k559
              refine ⟨_, _, rfl, ?_⟩
              refine T_nb (st' := []) rfl ?_
              have g562 : 0 ≤ m560.1 10 ∧ m560.1 10 ≤ 8 := Tm560.1 10
              have g563 : (-1) ≤ m560.1 11 ∧ m560.1 11 ≤ 4000 := Tm560.1 11
              replace h561 : (0 < (m209.1 10) → (m560.1 10) = (m209.1 10) ∧ (m560.1 11) = (m209.1 11)) ∧ ((m209.1 10) ≤ 0 → (m560.1 10) = (3 : Int) ∧ (m560.1 11) = (m209.1 8)) := h561
              have hf564 : 1 ≤ (m560.1 10) := by omega
              clear g217 g218 h210 h224 h561
              refine Tm_lv (a := [(0, .ref 189), (1, .int (i32 so)), (2, .int (i32 wi))]) rfl rfl ⟨rfl, rfl, rfl, trivial⟩ ?_
              exact J84_195 so wi (mO m560 [] []) (r32 (by omega) (by omega)) (r32 (by omega) (by omega)) Tm560 (fr_m (fr_s Fm560 (fr_m (fr_s Fm209 (fr_m fr_0 rfl rfl) rfl rfl) rfl rfl) rfl rfl) rfl rfl) (show 5 ≤ so by omega) (show so ≤ 5 by omega) (show (-2147483648) ≤ wi by omega) (show wi ≤ 2147483647 by omega) (show ∀ k, (m.2 14) k + (m.2 15) k ≤ 4000 by first | exact hNM | (intro k; rw [hE1, hE2]; have := hNM0 k; have h7 := hLx1; unfold upI; split <;> omega)) (show 1 ≤ (m560.1 10) by omega)
      · skip
        refine T_ld 21 (.ref 189) rfl (fun _ => rfl) ?_
        refine T_call 24 226 [.ref 189] [] rfl (fun _ => rfl) rfl (d_bad w (mO m209 [] []) c N D (by omega) Tm209 ) (fun rr565 k566 => ?_)
        obtain ⟨m567, Tm567, Fm567, h568, rfl⟩ := k566
        refine ⟨_, _, rfl, ?_⟩
        refine T_nb (st' := []) rfl ?_
        have g569 : 0 ≤ m567.1 10 ∧ m567.1 10 ≤ 8 := Tm567.1 10
        have g570 : (-1) ≤ m567.1 11 ∧ m567.1 11 ≤ 4000 := Tm567.1 11
        replace h568 : (0 < (m209.1 10) → (m567.1 10) = (m209.1 10) ∧ (m567.1 11) = (m209.1 11)) ∧ ((m209.1 10) ≤ 0 → (m567.1 10) = 1 ∧ (m567.1 11) = (m209.1 8)) := h568
        have hf571 : 1 ≤ (m567.1 10) := by omega
        clear g217 g218 h210 h224 h568
        refine T_ret rfl (fun _ => rfl) ?_
        exact ⟨(mO m567 [] []), Tm567, (fr_m (fr_s Fm567 (fr_m (fr_s Fm209 (fr_m fr_0 rfl rfl) rfl rfl) rfl rfl) rfl rfl) rfl rfl), (show (m567.1 10) = 0 → (m.1 10) = 0 by omega), (show LxP (m567.1 7) (m567.1 8) (m567.1 9) (m.1 6) (m567.1 10) by rewrite [(show (m567.1 7) = (m209.1 7) from (fr1 Fm567 7 rfl)), (show (m567.1 8) = (m209.1 8) from (fr1 Fm567 8 rfl)), (show (m567.1 9) = (m209.1 9) from (fr1 Fm567 9 rfl))]; first | (first | exact hLx | exact (fun _ => hLx (by omega)) | (intro h9; exfalso; omega)) | (exfalso; omega)), (show ∀ k, (m567.2 14) k + (m567.2 15) k ≤ 4000 by rewrite [(show (m567.2 14) = (m.2 14) from ((fr2 Fm567 14 rfl).trans (fr2 Fm209 14 rfl))), (show (m567.2 15) = (m.2 15) from ((fr2 Fm567 15 rfl).trans (fr2 Fm209 15 rfl)))]; first | (first | exact hNM | (intro k; rw [hE1, hE2]; have := hNM k; have h7 := hLx0 hf0; unfold upI; split <;> omega)) | (exfalso; omega)), (fun (h : (m567.1 10) = 0) => absurd h (by omega)), rfl⟩
    · skip
      replace h210 : LxP (m209.1 7) (m209.1 8) (m209.1 9) (m.1 6) (m209.1 10) := h210
      have hLx := h210
      clear h211
      replace h212 : (m.1 8) ≤ (m209.1 8) := h212
      clear h213
      have hf572 : 1 ≤ (m209.1 10) := by omega
      refine T_gf 8 (.int (i32 (m209.1 10))) rfl rfl rfl rfl rfl rfl ?_
      refine T_if 12 11 rfl rfl rfl (r32 (by omega) (by omega)) (fun (h573 : (m209.1 10) ≤ 0) => by exfalso; omega) (fun (h573 : ¬ ((m209.1 10) ≤ 0)) => ?_)
      refine T_ret rfl (fun _ => rfl) ?_
      exact ⟨(mO m209 [] []), Tm209, (fr_m (fr_s Fm209 (fr_m fr_0 rfl rfl) rfl rfl) rfl rfl), (show (m209.1 10) = 0 → (m.1 10) = 0 by omega), (show LxP (m209.1 7) (m209.1 8) (m209.1 9) (m.1 6) (m209.1 10) by first | (first | exact hLx | exact (fun _ => hLx (by omega)) | (intro h9; exfalso; omega)) | (exfalso; omega)), (show ∀ k, (m209.2 14) k + (m209.2 15) k ≤ 4000 by rewrite [(show (m209.2 14) = (m.2 14) from (fr2 Fm209 14 rfl)), (show (m209.2 15) = (m.2 15) from (fr2 Fm209 15 rfl))]; first | (first | exact hNM | (intro k; rw [hE1, hE2]; have := hNM k; have h7 := hLx0 hf0; unfold upI; split <;> omega)) | (exfalso; omega)), (fun (h : (m209.1 10) = 0) => absurd h (by omega)), rfl⟩
  · skip
    clear hC
    refine T_ld 1 (.ref 189) rfl (fun _ => rfl) ?_
    refine T_call 4 212 [.ref 189] [] rfl (fun _ => rfl) rfl (d_next w (mO m [] []) c N D (by omega) hT (show (m.1 10) = 0 → (m.1 8) + (m.1 9) ≤ (m.1 6) by first | omega | (intro h9; have h8 := hLx h9; omega))) (fun rr574 k575 => ?_)
    obtain ⟨m576, Tm576, Fm576, h577, h578, h579, h580, rfl⟩ := k575
    refine ⟨_, _, rfl, ?_⟩
    refine T_nb (st' := []) rfl ?_
    have g581 : 0 ≤ m576.1 7 ∧ m576.1 7 ≤ 330 := Tm576.1 7
    have g582 : 0 ≤ m576.1 8 ∧ m576.1 8 ≤ 4000 := Tm576.1 8
    have g583 : 0 ≤ m576.1 9 ∧ m576.1 9 ≤ 4000 := Tm576.1 9
    have g584 : 0 ≤ m576.1 10 ∧ m576.1 10 ≤ 8 := Tm576.1 10
    have g585 : (-1) ≤ m576.1 11 ∧ m576.1 11 ≤ 4000 := Tm576.1 11
    replace h577 : LxP (m576.1 7) (m576.1 8) (m576.1 9) (m.1 6) (m576.1 10) := h577
    replace h578 : (m576.1 10) = 0 → (m.1 10) = 0 := h578
    replace h579 : (m.1 8) ≤ (m576.1 8) := h579
    replace h580 : (m576.1 10) = 0 → (m.1 8) + (m.1 9) ≤ (m576.1 8) := h580
    have hf586 : 1 ≤ (m576.1 10) := by omega
    clear h578
    clear h580
    have hLx := h577
    refine T_gf 8 (.int (i32 (m576.1 10))) rfl rfl rfl rfl rfl rfl ?_
    refine T_if 12 11 rfl rfl rfl (r32 (by omega) (by omega)) (fun (h587 : (m576.1 10) ≤ 0) => by exfalso; omega) (fun (h587 : ¬ ((m576.1 10) ≤ 0)) => ?_)
    refine T_ret rfl (fun _ => rfl) ?_
    exact ⟨(mO m576 [] []), Tm576, (fr_m (fr_s Fm576 (fr_m fr_0 rfl rfl) rfl rfl) rfl rfl), (show (m576.1 10) = 0 → (m.1 10) = 0 by omega), (show LxP (m576.1 7) (m576.1 8) (m576.1 9) (m.1 6) (m576.1 10) by first | (first | exact hLx | exact (fun _ => hLx (by omega)) | (intro h9; exfalso; omega)) | (exfalso; omega)), (show ∀ k, (m576.2 14) k + (m576.2 15) k ≤ 4000 by rewrite [(show (m576.2 14) = (m.2 14) from (fr2 Fm576 14 rfl)), (show (m576.2 15) = (m.2 15) from (fr2 Fm576 15 rfl))]; first | (first | exact hNM | (intro k; rw [hE1, hE2]; have := hNM k; have h7 := hLx0 hf0; unfold upI; split <;> omega)) | (exfalso; omega)), (fun (h : (m576.1 10) = 0) => absurd h (by omega)), rfl⟩
