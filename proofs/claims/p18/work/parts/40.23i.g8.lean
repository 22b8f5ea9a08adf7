def fF_takeSelect : List Nat := [7, 8, 9, 10, 11, 12, 13, 23, 28, 69, 70, 71, 72, 73, 74, 75]
def fA_takeSelect : List Nat := [14, 15, 16, 17, 37, 38, 42, 43, 44, 45, 65, 66, 67, 68, 76, 77, 78, 79, 80, 81, 82, 83, 84, 85, 86, 87, 88, 89, 90, 91, 92, 95, 96, 97, 98]
def Q_takeSelect (m : mR) (c : Nat → Option am_C) (N : Nat) (d : Int) : ag_Re af_T → Prop := fun R => ∃ (M : mR), Ty M ∧ fr fF_takeSelect fA_takeSelect m M ∧ ((M.1 10) = 0 → (m.1 10) = 0) ∧ (LxP (M.1 7) (M.1 8) (M.1 9) (m.1 6) (M.1 10)) ∧ (∀ k, (M.2 14) k + (M.2 15) k ≤ 4000) ∧ (M.1 10 = 0 → ((m.1 8) + 1 ≤ (M.1 8)) ∧ (PN (M.1 13) (m.1 19) (m.1 20) (m.1 21) (m.1 22) (M.1 23) (m.1 25) (m.1 26) (M.2 16) (M.2 17)) ∧ (CN (M.2 65) (M.2 67) (M.1 28)) ∧ (SOp (M.2 38) (M.1 23) (m.1 24)) ∧ ((m.1 23) ≤ (M.1 23)) ∧ ((m.1 28) ≤ (M.1 28)) ∧ (agr (m.2 65) (M.2 65) (m.1 28)) ∧ (agr (m.2 42) (M.2 42) d) ∧ (agr (m.2 95) (M.2 95) d) ∧ (agr (m.2 96) (M.2 96) d) ∧ (agr (m.2 44) (M.2 44) d) ∧ (agr (m.2 45) (M.2 45) (8 * d)) ∧ (StR (M.2 65) (M.1 28) (M.1 23) d (M.2 42) (M.2 95) (M.2 96) (M.2 44) (M.2 45))) ∧ R = (.inl (none), (mhp M c, N), 0, 0)
set_option maxHeartbeats 3000000 in
theorem c_takeSelect (w : wX) (m : mR) (c : Nat → Option am_C) (N D : Nat) (hD : 11 ≤ D) (hT : Ty m) (d : Int) (qd : R32 d) (hLx0 : LxP (m.1 7) (m.1 8) (m.1 9) (m.1 6) (m.1 10)) (hNM0 : ∀ k, (m.2 14) k + (m.2 15) k ≤ 4000) (hFA0 : ∀ k, (m.2 31) k + (m.2 32) k ≤ 4000) (hPA0 : ∀ k, (m.2 47) k + (m.2 48) k ≤ 4000) (p4 : 0 ≤ d ∧ d ≤ 15) (hC : m.1 10 = 0 → (PN (m.1 13) (m.1 19) (m.1 20) (m.1 21) (m.1 22) (m.1 23) (m.1 25) (m.1 26) (m.2 16) (m.2 17)) ∧ (CN (m.2 65) (m.2 67) (m.1 28)) ∧ (SOp (m.2 38) (m.1 23) (m.1 24)) ∧ ((m.2 42) d = 0) ∧ ((m.1 7) ≠ 0)) : TC w D 243 [.ref 189, .int (i32 d)] (mhp m c, N) (Q_takeSelect m c N d) := by
  obtain ⟨D, rfl⟩ : ∃ k, D = k + 1 := ⟨D - 1, by omega⟩
  obtain ⟨qda, qdb⟩ := id qd
  have hLx := hLx0
  have hNM := hNM0
  have hFA := hFA0
  have hPA := hPA0
  have f7 : 0 ≤ m.1 7 ∧ m.1 7 ≤ 330 := hT.1 7
  have f8 : 0 ≤ m.1 8 ∧ m.1 8 ≤ 4000 := hT.1 8
  have f9 : 0 ≤ m.1 9 ∧ m.1 9 ≤ 4000 := hT.1 9
  have f10 : 0 ≤ m.1 10 ∧ m.1 10 ≤ 8 := hT.1 10
  have f13 : 0 ≤ m.1 13 ∧ m.1 13 ≤ 120 := hT.1 13
  have f23 : 0 ≤ m.1 23 ∧ m.1 23 ≤ 16 := hT.1 23
  have f28 : 0 ≤ m.1 28 ∧ m.1 28 ≤ 800 := hT.1 28
  have f69 : 0 ≤ m.1 69 ∧ m.1 69 ≤ 1024 := hT.1 69
  have f25 : 0 ≤ m.1 25 ∧ m.1 25 ≤ 16 := hT.1 25
  have f22 : 0 ≤ m.1 22 ∧ m.1 22 ≤ 8 := hT.1 22
  have f24 : 0 ≤ m.1 24 ∧ m.1 24 ≤ 16 := hT.1 24
  have f19 : 0 ≤ m.1 19 ∧ m.1 19 ≤ 12 := hT.1 19
  have f20 : 0 ≤ m.1 20 ∧ m.1 20 ≤ 12 := hT.1 20
  have f21 : 0 ≤ m.1 21 ∧ m.1 21 ≤ 16 := hT.1 21
  have f6 : 0 ≤ m.1 6 ∧ m.1 6 ≤ 4000 := hT.1 6
  have f26 : 0 ≤ m.1 26 ∧ m.1 26 ≤ 8 := hT.1 26
  refine Tc_of rfl ?_
  show TT w D pm_243 (0, [(0, .ref 189), (1, .int (i32 d))], [], (mhp (mO m [] []) c, N), 0, 0) (Q_takeSelect m c N d)
  by_cases hf0 : m.1 10 = 0
  · skip
    obtain ⟨pPN, hCN, pSO, hc0, c1⟩ := hC hf0
    have h7 := hLx (by omega)
    have hNM := hNM0
    have J102_13 : ∀ (m12 : mR), Ty m12 → fr [7, 8, 9, 10, 11, 12, 13, 23, 28, 69, 70, 71, 72, 73, 74, 75] [14, 15, 16, 17, 37, 38, 42, 43, 44, 45, 65, 66, 67, 68, 76, 77, 78, 79, 80, 81, 82, 83, 84, 85, 86, 87, 88, 89, 90, 91, 92, 95, 96, 97, 98] (mO m [] []) m12 → (∀ k, (m12.2 14) k + (m12.2 15) k ≤ 4000) → (1 ≤ (m12.1 10)) → TT w D pm_243 (102, [(0, .ref 189), (1, .int (i32 d))], [], (mhp (mO m12 [] []) c, N), 0, 0) (Q_takeSelect m c N d) := by
      intro m12 Tm12 Fm12 ic14 ic15
      have q16_7 : 0 ≤ m12.1 7 ∧ m12.1 7 ≤ 330 := Tm12.1 7
      have q16_8 : 0 ≤ m12.1 8 ∧ m12.1 8 ≤ 4000 := Tm12.1 8
      have q16_9 : 0 ≤ m12.1 9 ∧ m12.1 9 ≤ 4000 := Tm12.1 9
      have q16_10 : 0 ≤ m12.1 10 ∧ m12.1 10 ≤ 8 := Tm12.1 10
      have q16_13 : 0 ≤ m12.1 13 ∧ m12.1 13 ≤ 120 := Tm12.1 13
      have q16_23 : 0 ≤ m12.1 23 ∧ m12.1 23 ≤ 16 := Tm12.1 23
      have q16_28 : 0 ≤ m12.1 28 ∧ m12.1 28 ≤ 800 := Tm12.1 28
      have q16_69 : 0 ≤ m12.1 69 ∧ m12.1 69 ≤ 1024 := Tm12.1 69
      have hNM := ic14
      refine T_ret rfl (fun _ => rfl) ?_
      exact ⟨(mO m12 [] []), Tm12, (fr_m (fr_s Fm12 (fr_m fr_0 rfl rfl) rfl rfl) rfl rfl), (show (m12.1 10) = 0 → (m.1 10) = 0 by omega), (show LxP (m12.1 7) (m12.1 8) (m12.1 9) (m.1 6) (m12.1 10) by first | (first | exact hLx | exact (fun _ => hLx (by omega)) | (intro h9; exfalso; omega)) | (exfalso; omega)), (show ∀ k, (m12.2 14) k + (m12.2 15) k ≤ 4000 by first | (first | exact hNM | (intro k; rw [hE1, hE2]; have := hNM k; have h7 := hLx0 hf0; unfold upI; split <;> omega)) | (exfalso; omega)), (fun (h : (m12.1 10) = 0) => absurd h (by omega)), rfl⟩
    have J96_20 : ∀ (m19 : mR), Ty m19 → fr [7, 8, 9, 10, 11, 12, 13, 23, 28, 69, 70, 71, 72, 73, 74, 75] [14, 15, 16, 17, 37, 38, 42, 43, 44, 45, 65, 66, 67, 68, 76, 77, 78, 79, 80, 81, 82, 83, 84, 85, 86, 87, 88, 89, 90, 91, 92, 95, 96, 97, 98] (mO m [] []) m19 → (∀ k, (m19.2 14) k + (m19.2 15) k ≤ 4000) → (1 ≤ (m19.1 10)) → TT w D pm_243 (96, [(0, .ref 189), (1, .int (i32 d))], [], (mhp (mO m19 [] []) c, N), 0, 0) (Q_takeSelect m c N d) := by
      intro m19 Tm19 Fm19 ic21 ic22
      have q23_7 : 0 ≤ m19.1 7 ∧ m19.1 7 ≤ 330 := Tm19.1 7
      have q23_8 : 0 ≤ m19.1 8 ∧ m19.1 8 ≤ 4000 := Tm19.1 8
      have q23_9 : 0 ≤ m19.1 9 ∧ m19.1 9 ≤ 4000 := Tm19.1 9
      have q23_10 : 0 ≤ m19.1 10 ∧ m19.1 10 ≤ 8 := Tm19.1 10
      have q23_13 : 0 ≤ m19.1 13 ∧ m19.1 13 ≤ 120 := Tm19.1 13
      have q23_23 : 0 ≤ m19.1 23 ∧ m19.1 23 ≤ 16 := Tm19.1 23
      have q23_28 : 0 ≤ m19.1 28 ∧ m19.1 28 ≤ 800 := Tm19.1 28
      have q23_69 : 0 ≤ m19.1 69 ∧ m19.1 69 ≤ 1024 := Tm19.1 69
      have hNM := ic21
      refine T_ld 97 (.ref 189) rfl (fun _ => rfl) ?_
      refine T_ld 99 (.int (i32 125)) rfl (fun _ => rfl) ?_
      refine T_call 102 232 [.ref 189, .int (i32 125)] [] rfl (fun _ => rfl) rfl (d_need w (mO m19 [] []) c N D (by omega) Tm19 125 ⟨by decide, by decide⟩ (show 1 ≤ (125 : Int) by omega) (show LxP (m19.1 7) (m19.1 8) (m19.1 9) (m19.1 6) (m19.1 10) by rewrite [(show (m19.1 6) = (m.1 6) from (fr1 Fm19 6 rfl))]; first | exact hLx | (intro h9; exfalso; omega) | (intro h9; have h8 := hLx (by omega); omega))) (fun rr26 k27 => ?_)
      obtain ⟨m28, Tm28, Fm28, h29, h30, h31, h32, rfl⟩ := k27
      refine ⟨_, _, rfl, ?_⟩
      refine T_nb (st' := []) rfl ?_
      have g33 : 0 ≤ m28.1 7 ∧ m28.1 7 ≤ 330 := Tm28.1 7
      have g34 : 0 ≤ m28.1 8 ∧ m28.1 8 ≤ 4000 := Tm28.1 8
      have g35 : 0 ≤ m28.1 9 ∧ m28.1 9 ≤ 4000 := Tm28.1 9
      have g36 : 0 ≤ m28.1 10 ∧ m28.1 10 ≤ 8 := Tm28.1 10
      replace h29 : LxP (m28.1 7) (m28.1 8) (m28.1 9) (m19.1 6) (m28.1 10) := h29
      rewrite [(show (m19.1 6) = (m.1 6) from (fr1 Fm19 6 rfl))] at h29
      replace h30 : (m28.1 10) = 0 → (m19.1 10) = 0 ∧ (m19.1 7) = (125 : Int) := h30
      replace h31 : (m19.1 8) ≤ (m28.1 8) := h31
      replace h32 : (m28.1 10) = 0 → (m19.1 8) + (m19.1 9) ≤ (m28.1 8) := h32
      have hf37 : 1 ≤ (m28.1 10) := by omega
      clear h30
      clear h32
      have hLx := h29
      clear q23_7 q23_8 q23_9 q23_10 ic22 h31
      exact J102_13 (mO m28 [] []) Tm28 (fr_m (fr_s Fm28 (fr_m (fr_s Fm19 (fr_m fr_0 rfl rfl) rfl rfl) rfl rfl) rfl rfl) rfl rfl) (show ∀ k, (m28.2 14) k + (m28.2 15) k ≤ 4000 by rewrite [(show (m28.2 14) = (m19.2 14) from (fr2 Fm28 14 rfl)), (show (m28.2 15) = (m19.2 15) from (fr2 Fm28 15 rfl))]; first | exact hNM) (show 1 ≤ (m28.1 10) by omega)
    have J89_40 : ∀ (s38 : Int) (m39 : mR), (R32 s38) → Ty m39 → fr [7, 8, 9, 10, 11, 12, 13, 23, 28, 69, 70, 71, 72, 73, 74, 75] [14, 15, 16, 17, 37, 38, 42, 43, 45, 65, 66, 67, 68, 76, 77, 78, 79, 80, 81, 82, 83, 84, 85, 86, 87, 88, 89, 90, 91, 92, 95, 96, 97, 98] (mO m [] []) m39 → ((-2) ≤ s38) → (s38 ≤ 15) → (∀ k, (m39.2 14) k + (m39.2 15) k ≤ 4000) → (1 ≤ (m39.1 10)) → TT w D pm_243 (89, [(0, .ref 189), (1, .int (i32 d))], [.int (i32 s38), .int (i32 d), .ref 214], (mhp (mO m39 [] []) c, N), 0, 0) (Q_takeSelect m c N d) := by
      intro s38 m39 q45 Tm39 Fm39 ic41 ic42 ic43 ic44
      obtain ⟨q45a, q45b⟩ := id q45
      have q46_7 : 0 ≤ m39.1 7 ∧ m39.1 7 ≤ 330 := Tm39.1 7
      have q46_8 : 0 ≤ m39.1 8 ∧ m39.1 8 ≤ 4000 := Tm39.1 8
      have q46_9 : 0 ≤ m39.1 9 ∧ m39.1 9 ≤ 4000 := Tm39.1 9
      have q46_10 : 0 ≤ m39.1 10 ∧ m39.1 10 ≤ 8 := Tm39.1 10
      have q46_13 : 0 ≤ m39.1 13 ∧ m39.1 13 ≤ 120 := Tm39.1 13
      have q46_23 : 0 ≤ m39.1 23 ∧ m39.1 23 ≤ 16 := Tm39.1 23
      have q46_28 : 0 ≤ m39.1 28 ∧ m39.1 28 ≤ 800 := Tm39.1 28
      have q46_69 : 0 ≤ m39.1 69 ∧ m39.1 69 ≤ 1024 := Tm39.1 69
      have hNM := ic43
      have G49 : ∀ j, (-2) ≤ (upI (m.2 44) d s38) j ∧ (upI (m.2 44) d s38) j ≤ 15 := upI_rg (hT.2.1 44) ⟨by omega, by omega⟩
      refine T_iast (a' := [(44, upI (m.2 44) d s38)]) 90 44 (m.2 44) rfl rfl rfl (by omega) (show d < (16 : Int) by omega) (show (m39.2 44) = (m.2 44) from (fr2 Fm39 44 rfl)) rfl ?_
      refine T_ld 91 (.ref 189) rfl (fun _ => rfl) ?_
      refine T_ld 93 (.int (i32 59)) rfl (fun _ => rfl) ?_
      refine T_call 96 232 [.ref 189, .int (i32 59)] [] rfl (fun _ => rfl) rfl (d_need w (mO m39 [] [(44, upI (m.2 44) d s38)]) c N D (by omega) (Ty_mO Tm39 rfl rfl trivial ⟨G49, trivial⟩) 59 ⟨by decide, by decide⟩ (show 1 ≤ (59 : Int) by omega) (show LxP (m39.1 7) (m39.1 8) (m39.1 9) (m39.1 6) (m39.1 10) by rewrite [(show (m39.1 6) = (m.1 6) from (fr1 Fm39 6 rfl))]; first | exact hLx | (intro h9; exfalso; omega) | (intro h9; have h8 := hLx (by omega); omega))) (fun rr50 k51 => ?_)
      obtain ⟨m52, Tm52, Fm52, h53, h54, h55, h56, rfl⟩ := k51
      refine ⟨_, _, rfl, ?_⟩
      refine T_nb (st' := []) rfl ?_
      have g57 : 0 ≤ m52.1 7 ∧ m52.1 7 ≤ 330 := Tm52.1 7
      have g58 : 0 ≤ m52.1 8 ∧ m52.1 8 ≤ 4000 := Tm52.1 8
      have g59 : 0 ≤ m52.1 9 ∧ m52.1 9 ≤ 4000 := Tm52.1 9
      have g60 : 0 ≤ m52.1 10 ∧ m52.1 10 ≤ 8 := Tm52.1 10
      replace h53 : LxP (m52.1 7) (m52.1 8) (m52.1 9) (m39.1 6) (m52.1 10) := h53
      rewrite [(show (m39.1 6) = (m.1 6) from (fr1 Fm39 6 rfl))] at h53
      replace h54 : (m52.1 10) = 0 → (m39.1 10) = 0 ∧ (m39.1 7) = (59 : Int) := h54
      replace h55 : (m39.1 8) ≤ (m52.1 8) := h55
      replace h56 : (m52.1 10) = 0 → (m39.1 8) + (m39.1 9) ≤ (m52.1 8) := h56
      have hf61 : 1 ≤ (m52.1 10) := by omega
      clear h54
      clear h56
      have hLx := h53
      clear q46_7 q46_8 q46_9 q46_10 ic44 h55
      exact J96_20 (mO m52 [] []) Tm52 (fr_m (fr_s Fm52 (fr_m (fr_s Fm39 (fr_m fr_0 rfl rfl) rfl rfl) rfl rfl) rfl rfl) rfl rfl) (show ∀ k, (m52.2 14) k + (m52.2 15) k ≤ 4000 by rewrite [(show (m52.2 14) = (m39.2 14) from (fr2 Fm52 14 rfl)), (show (m52.2 15) = (m39.2 15) from (fr2 Fm52 15 rfl))]; first | exact hNM) (show 1 ≤ (m52.1 10) by omega)
    have J80_63 : ∀ (m62 : mR), Ty m62 → fr [7, 8, 9, 10, 11, 12, 13, 23, 28, 69, 70, 71, 72, 73, 74, 75] [14, 15, 16, 17, 37, 38, 42, 43, 45, 65, 66, 67, 68, 76, 77, 78, 79, 80, 81, 82, 83, 84, 85, 86, 87, 88, 89, 90, 91, 92, 95, 96, 97, 98] (mO m [] []) m62 → (∀ k, (m62.2 14) k + (m62.2 15) k ≤ 4000) → (1 ≤ (m62.1 10)) → TT w D pm_243 (80, [(0, .ref 189), (1, .int (i32 d))], [], (mhp (mO m62 [] []) c, N), 0, 0) (Q_takeSelect m c N d) := by
      intro m62 Tm62 Fm62 ic64 ic65
      have q66_7 : 0 ≤ m62.1 7 ∧ m62.1 7 ≤ 330 := Tm62.1 7
      have q66_8 : 0 ≤ m62.1 8 ∧ m62.1 8 ≤ 4000 := Tm62.1 8
      have q66_9 : 0 ≤ m62.1 9 ∧ m62.1 9 ≤ 4000 := Tm62.1 9
      have q66_10 : 0 ≤ m62.1 10 ∧ m62.1 10 ≤ 8 := Tm62.1 10
      have q66_13 : 0 ≤ m62.1 13 ∧ m62.1 13 ≤ 120 := Tm62.1 13
      have q66_23 : 0 ≤ m62.1 23 ∧ m62.1 23 ≤ 16 := Tm62.1 23
      have q66_28 : 0 ≤ m62.1 28 ∧ m62.1 28 ≤ 800 := Tm62.1 28
      have q66_69 : 0 ≤ m62.1 69 ∧ m62.1 69 ≤ 1024 := Tm62.1 69
      have hNM := ic64
      refine T_gf 84 (.ref 214) rfl rfl rfl rfl rfl rfl ?_
      refine T_ld 85 (.int (i32 d)) rfl (fun _ => rfl) ?_
      refine T_ld 86 (.ref 189) rfl (fun _ => rfl) ?_
      refine T_call 89 242 [.ref 189] [.int (i32 d), .ref 214] rfl (fun _ => rfl) rfl (c_stateHere w (mO m62 [] []) c N D (by omega) Tm62 (show LxP (m62.1 7) (m62.1 8) (m62.1 9) (m62.1 6) (m62.1 10) by rewrite [(show (m62.1 6) = (m.1 6) from (fr1 Fm62 6 rfl))]; first | exact hLx | exact (fun _ => hLx (by omega)) | (intro h9; exfalso; omega)) (show ∀ k, (m62.2 14) k + (m62.2 15) k ≤ 4000 by assumption) (fun (h : (m62.1 10) = 0) => absurd h (by omega))) (fun rr69 k70 => ?_)
      obtain ⟨m71, x72, Tm71, Fm71, g73, h74, h75, h76, c77, rfl⟩ := k70
      refine ⟨_, _, rfl, ?_⟩
      refine T_nb (st' := [.int (i32 x72), .int (i32 d), .ref 214]) rfl ?_
      obtain ⟨g73a, g73b⟩ := g73
      have g78 : 0 ≤ m71.1 7 ∧ m71.1 7 ≤ 330 := Tm71.1 7
      have g79 : 0 ≤ m71.1 8 ∧ m71.1 8 ≤ 4000 := Tm71.1 8
      have g80 : 0 ≤ m71.1 9 ∧ m71.1 9 ≤ 4000 := Tm71.1 9
      have g81 : 0 ≤ m71.1 10 ∧ m71.1 10 ≤ 8 := Tm71.1 10
      have g82 : 0 ≤ m71.1 13 ∧ m71.1 13 ≤ 120 := Tm71.1 13
      have g83 : 0 ≤ m71.1 23 ∧ m71.1 23 ≤ 16 := Tm71.1 23
      replace h74 : (m71.1 10) = 0 → (m62.1 10) = 0 := h74
      replace h75 : LxP (m71.1 7) (m71.1 8) (m71.1 9) (m62.1 6) (m71.1 10) := h75
      rewrite [(show (m62.1 6) = (m.1 6) from (fr1 Fm62 6 rfl))] at h75
      replace h76 : ∀ k, (m71.2 14) k + (m71.2 15) k ≤ 4000 := h76
      have hf84 : 1 ≤ (m71.1 10) := by omega
      clear c77
      clear h74
      have hLx := h75
      have hNM := h76
      clear q66_7 q66_8 q66_9 q66_10 q66_13 q66_23 ic64 ic65
      exact J89_40 x72 (mO m71 [] []) (r32 (by omega) (by omega)) Tm71 (fr_m (fr_s Fm71 (fr_m (fr_s Fm62 (fr_m fr_0 rfl rfl) rfl rfl) rfl rfl) rfl rfl) rfl rfl) (show (-2) ≤ x72 by omega) (show x72 ≤ 15 by omega) (show ∀ k, (m71.2 14) k + (m71.2 15) k ≤ 4000 by first | exact hNM) (show 1 ≤ (m71.1 10) by omega)
    have J74_86 : ∀ (m85 : mR), Ty m85 → fr [7, 8, 9, 10, 11, 12, 13, 23, 28, 69, 70, 71, 72, 73, 74, 75] [14, 15, 16, 17, 37, 38, 42, 43, 45, 65, 66, 67, 68, 76, 77, 78, 79, 80, 81, 82, 83, 84, 85, 86, 87, 88, 89, 90, 91, 92, 95, 96, 97, 98] (mO m [] []) m85 → (∀ k, (m85.2 14) k + (m85.2 15) k ≤ 4000) → (1 ≤ (m85.1 10)) → TT w D pm_243 (74, [(0, .ref 189), (1, .int (i32 d))], [], (mhp (mO m85 [] []) c, N), 0, 0) (Q_takeSelect m c N d) := by
      intro m85 Tm85 Fm85 ic87 ic88
      have q89_7 : 0 ≤ m85.1 7 ∧ m85.1 7 ≤ 330 := Tm85.1 7
      have q89_8 : 0 ≤ m85.1 8 ∧ m85.1 8 ≤ 4000 := Tm85.1 8
      have q89_9 : 0 ≤ m85.1 9 ∧ m85.1 9 ≤ 4000 := Tm85.1 9
      have q89_10 : 0 ≤ m85.1 10 ∧ m85.1 10 ≤ 8 := Tm85.1 10
      have q89_13 : 0 ≤ m85.1 13 ∧ m85.1 13 ≤ 120 := Tm85.1 13
      have q89_23 : 0 ≤ m85.1 23 ∧ m85.1 23 ≤ 16 := Tm85.1 23
      have q89_28 : 0 ≤ m85.1 28 ∧ m85.1 28 ≤ 800 := Tm85.1 28
      have q89_69 : 0 ≤ m85.1 69 ∧ m85.1 69 ≤ 1024 := Tm85.1 69
      have hNM := ic87
      refine T_ld 75 (.ref 189) rfl (fun _ => rfl) ?_
      refine T_ld 77 (.int (i32 58)) rfl (fun _ => rfl) ?_
      refine T_call 80 232 [.ref 189, .int (i32 58)] [] rfl (fun _ => rfl) rfl (d_need w (mO m85 [] []) c N D (by omega) Tm85 58 ⟨by decide, by decide⟩ (show 1 ≤ (58 : Int) by omega) (show LxP (m85.1 7) (m85.1 8) (m85.1 9) (m85.1 6) (m85.1 10) by rewrite [(show (m85.1 6) = (m.1 6) from (fr1 Fm85 6 rfl))]; first | exact hLx | (intro h9; exfalso; omega) | (intro h9; have h8 := hLx (by omega); omega))) (fun rr92 k93 => ?_)
      obtain ⟨m94, Tm94, Fm94, h95, h96, h97, h98, rfl⟩ := k93
      refine ⟨_, _, rfl, ?_⟩
      refine T_nb (st' := []) rfl ?_
      have g99 : 0 ≤ m94.1 7 ∧ m94.1 7 ≤ 330 := Tm94.1 7
      have g100 : 0 ≤ m94.1 8 ∧ m94.1 8 ≤ 4000 := Tm94.1 8
      have g101 : 0 ≤ m94.1 9 ∧ m94.1 9 ≤ 4000 := Tm94.1 9
      have g102 : 0 ≤ m94.1 10 ∧ m94.1 10 ≤ 8 := Tm94.1 10
      replace h95 : LxP (m94.1 7) (m94.1 8) (m94.1 9) (m85.1 6) (m94.1 10) := h95
      rewrite [(show (m85.1 6) = (m.1 6) from (fr1 Fm85 6 rfl))] at h95
      replace h96 : (m94.1 10) = 0 → (m85.1 10) = 0 ∧ (m85.1 7) = (58 : Int) := h96
      replace h97 : (m85.1 8) ≤ (m94.1 8) := h97
      replace h98 : (m94.1 10) = 0 → (m85.1 8) + (m85.1 9) ≤ (m94.1 8) := h98
      have hf103 : 1 ≤ (m94.1 10) := by omega
      clear h96
      clear h98
      have hLx := h95
      clear q89_7 q89_8 q89_9 q89_10 ic88 h97
      exact J80_63 (mO m94 [] []) Tm94 (fr_m (fr_s Fm94 (fr_m (fr_s Fm85 (fr_m fr_0 rfl rfl) rfl rfl) rfl rfl) rfl rfl) rfl rfl) (show ∀ k, (m94.2 14) k + (m94.2 15) k ≤ 4000 by rewrite [(show (m94.2 14) = (m85.2 14) from (fr2 Fm94 14 rfl)), (show (m94.2 15) = (m85.2 15) from (fr2 Fm94 15 rfl))]; first | exact hNM) (show 1 ≤ (m94.1 10) by omega)
    have J64_105 : ∀ (m104 : mR), Ty m104 → fr [7, 8, 9, 10, 11, 12, 13, 23, 28, 69, 70, 71, 72, 73, 74, 75] [14, 15, 16, 17, 37, 38, 42, 43, 45, 65, 66, 67, 68, 76, 77, 78, 79, 80, 81, 82, 83, 84, 85, 86, 87, 88, 89, 90, 91, 92, 95, 96, 97, 98] (mO m [] []) m104 → (∀ k, (m104.2 14) k + (m104.2 15) k ≤ 4000) → (1 ≤ (m104.1 10)) → TT w D pm_243 (64, [(0, .ref 189), (1, .int (i32 d))], [], (mhp (mO m104 [] []) c, N), 0, 0) (Q_takeSelect m c N d) := by
      intro m104 Tm104 Fm104 ic106 ic107
      have q108_7 : 0 ≤ m104.1 7 ∧ m104.1 7 ≤ 330 := Tm104.1 7
      have q108_8 : 0 ≤ m104.1 8 ∧ m104.1 8 ≤ 4000 := Tm104.1 8
      have q108_9 : 0 ≤ m104.1 9 ∧ m104.1 9 ≤ 4000 := Tm104.1 9
      have q108_10 : 0 ≤ m104.1 10 ∧ m104.1 10 ≤ 8 := Tm104.1 10
      have q108_13 : 0 ≤ m104.1 13 ∧ m104.1 13 ≤ 120 := Tm104.1 13
      have q108_23 : 0 ≤ m104.1 23 ∧ m104.1 23 ≤ 16 := Tm104.1 23
      have q108_28 : 0 ≤ m104.1 28 ∧ m104.1 28 ≤ 800 := Tm104.1 28
      have q108_69 : 0 ≤ m104.1 69 ∧ m104.1 69 ≤ 1024 := Tm104.1 69
      have hNM := ic106
      refine T_goto 44 rfl (fun _ => rfl) ?_
      refine T_gf 48 (.int (i32 (m104.1 10))) rfl rfl rfl rfl rfl rfl ?_
      refine T_if 67 51 rfl rfl rfl (r32 (by omega) (by omega)) (fun (h111 : (m104.1 10) ≠ 0) => ?_) (fun (h111 : ¬ ((m104.1 10) ≠ 0)) => by exfalso; omega)
      refine T_ld 68 (.ref 189) rfl (fun _ => rfl) ?_
      refine T_ld 71 (.int (i32 308)) rfl (fun _ => rfl) ?_
      refine T_call 74 232 [.ref 189, .int (i32 308)] [] rfl (fun _ => rfl) rfl (d_need w (mO m104 [] []) c N D (by omega) Tm104 308 ⟨by decide, by decide⟩ (show 1 ≤ (308 : Int) by omega) (show LxP (m104.1 7) (m104.1 8) (m104.1 9) (m104.1 6) (m104.1 10) by rewrite [(show (m104.1 6) = (m.1 6) from (fr1 Fm104 6 rfl))]; first | exact hLx | (intro h9; exfalso; omega) | (intro h9; have h8 := hLx (by omega); omega))) (fun rr112 k113 => ?_)
      obtain ⟨m114, Tm114, Fm114, h115, h116, h117, h118, rfl⟩ := k113
      refine ⟨_, _, rfl, ?_⟩
      refine T_nb (st' := []) rfl ?_
      have g119 : 0 ≤ m114.1 7 ∧ m114.1 7 ≤ 330 := Tm114.1 7
      have g120 : 0 ≤ m114.1 8 ∧ m114.1 8 ≤ 4000 := Tm114.1 8
      have g121 : 0 ≤ m114.1 9 ∧ m114.1 9 ≤ 4000 := Tm114.1 9
      have g122 : 0 ≤ m114.1 10 ∧ m114.1 10 ≤ 8 := Tm114.1 10
      replace h115 : LxP (m114.1 7) (m114.1 8) (m114.1 9) (m104.1 6) (m114.1 10) := h115
      rewrite [(show (m104.1 6) = (m.1 6) from (fr1 Fm104 6 rfl))] at h115
      replace h116 : (m114.1 10) = 0 → (m104.1 10) = 0 ∧ (m104.1 7) = (308 : Int) := h116
      replace h117 : (m104.1 8) ≤ (m114.1 8) := h117
      replace h118 : (m114.1 10) = 0 → (m104.1 8) + (m104.1 9) ≤ (m114.1 8) := h118
      have hf123 : 1 ≤ (m114.1 10) := by omega
      clear h116
      clear h118
      have hLx := h115
      clear q108_7 q108_8 q108_9 q108_10 ic107 h111 h117
      exact J74_86 (mO m114 [] []) Tm114 (fr_m (fr_s Fm114 (fr_m (fr_s Fm104 (fr_m fr_0 rfl rfl) rfl rfl) rfl rfl) rfl rfl) rfl rfl) (show ∀ k, (m114.2 14) k + (m114.2 15) k ≤ 4000 by rewrite [(show (m114.2 14) = (m104.2 14) from (fr2 Fm114 14 rfl)), (show (m114.2 15) = (m104.2 15) from (fr2 Fm114 15 rfl))]; first | exact hNM) (show 1 ≤ (m114.1 10) by omega)
    have J44_125 : ∀ (m124 : mR), Ty m124 → fr [7, 8, 9, 10, 11, 12, 28, 69, 70, 71, 72, 73, 74, 75] [43, 65, 66, 67, 68, 76, 77, 78, 79, 80, 81, 82, 83, 84, 85, 86, 87, 88, 89, 90, 91, 92, 95, 96] (mO m [] []) m124 → (∀ k, (m.2 14) k + (m.2 15) k ≤ 4000) → (1 ≤ (m124.1 10)) → TT w D pm_243 (44, [(0, .ref 189), (1, .int (i32 d))], [], (mhp (mO m124 [] []) c, N), 0, 0) (Q_takeSelect m c N d) := by
      intro m124 Tm124 Fm124 ic126 ic127
      have q128_7 : 0 ≤ m124.1 7 ∧ m124.1 7 ≤ 330 := Tm124.1 7
      have q128_8 : 0 ≤ m124.1 8 ∧ m124.1 8 ≤ 4000 := Tm124.1 8
      have q128_9 : 0 ≤ m124.1 9 ∧ m124.1 9 ≤ 4000 := Tm124.1 9
      have q128_10 : 0 ≤ m124.1 10 ∧ m124.1 10 ≤ 8 := Tm124.1 10
      have q128_28 : 0 ≤ m124.1 28 ∧ m124.1 28 ≤ 800 := Tm124.1 28
      have q128_69 : 0 ≤ m124.1 69 ∧ m124.1 69 ≤ 1024 := Tm124.1 69
      have hNM := ic126
      refine T_gf 48 (.int (i32 (m124.1 10))) rfl rfl rfl rfl rfl rfl ?_
      refine T_if 67 51 rfl rfl rfl (r32 (by omega) (by omega)) (fun (h131 : (m124.1 10) ≠ 0) => ?_) (fun (h131 : ¬ ((m124.1 10) ≠ 0)) => by exfalso; omega)
      refine T_ld 68 (.ref 189) rfl (fun _ => rfl) ?_
      refine T_ld 71 (.int (i32 308)) rfl (fun _ => rfl) ?_
      refine T_call 74 232 [.ref 189, .int (i32 308)] [] rfl (fun _ => rfl) rfl (d_need w (mO m124 [] []) c N D (by omega) Tm124 308 ⟨by decide, by decide⟩ (show 1 ≤ (308 : Int) by omega) (show LxP (m124.1 7) (m124.1 8) (m124.1 9) (m124.1 6) (m124.1 10) by rewrite [(show (m124.1 6) = (m.1 6) from (fr1 Fm124 6 rfl))]; first | exact hLx | (intro h9; exfalso; omega) | (intro h9; have h8 := hLx (by omega); omega))) (fun rr132 k133 => ?_)
      obtain ⟨m134, Tm134, Fm134, h135, h136, h137, h138, rfl⟩ := k133
      refine ⟨_, _, rfl, ?_⟩
      refine T_nb (st' := []) rfl ?_
      have g139 : 0 ≤ m134.1 7 ∧ m134.1 7 ≤ 330 := Tm134.1 7
      have g140 : 0 ≤ m134.1 8 ∧ m134.1 8 ≤ 4000 := Tm134.1 8
      have g141 : 0 ≤ m134.1 9 ∧ m134.1 9 ≤ 4000 := Tm134.1 9
      have g142 : 0 ≤ m134.1 10 ∧ m134.1 10 ≤ 8 := Tm134.1 10
      replace h135 : LxP (m134.1 7) (m134.1 8) (m134.1 9) (m124.1 6) (m134.1 10) := h135
      rewrite [(show (m124.1 6) = (m.1 6) from (fr1 Fm124 6 rfl))] at h135
      replace h136 : (m134.1 10) = 0 → (m124.1 10) = 0 ∧ (m124.1 7) = (308 : Int) := h136
      replace h137 : (m124.1 8) ≤ (m134.1 8) := h137
      replace h138 : (m134.1 10) = 0 → (m124.1 8) + (m124.1 9) ≤ (m134.1 8) := h138
      have hf143 : 1 ≤ (m134.1 10) := by omega
      clear h136
      clear h138
      have hLx := h135
      clear q128_7 q128_8 q128_9 q128_10 ic127 h131 h137
      exact J74_86 (mO m134 [] []) Tm134 (fr_m (fr_s Fm134 (fr_m (fr_s Fm124 (fr_m fr_0 rfl rfl) rfl rfl) rfl rfl) rfl rfl) rfl rfl) (show ∀ k, (m134.2 14) k + (m134.2 15) k ≤ 4000 by rewrite [(show (m134.2 14) = (m.2 14) from ((fr2 Fm134 14 rfl).trans (fr2 Fm124 14 rfl))), (show (m134.2 15) = (m.2 15) from ((fr2 Fm134 15 rfl).trans (fr2 Fm124 15 rfl)))]; first | exact hNM) (show 1 ≤ (m134.1 10) by omega)
    have J18_145 : ∀ (m144 : mR), Ty m144 → fr [7, 8, 9, 10, 11, 12, 28, 69, 70, 71, 72, 73, 74, 75] [65, 66, 67, 68, 76, 77, 78, 79, 80, 81, 82, 83, 84, 85, 86, 87, 88, 89, 90, 91, 92, 95] (mO m [] []) m144 → (∀ k, (m.2 14) k + (m.2 15) k ≤ 4000) → (1 ≤ (m144.1 10)) → TT w D pm_243 (18, [(0, .ref 189), (1, .int (i32 d))], [], (mhp (mO m144 [] []) c, N), 0, 0) (Q_takeSelect m c N d) := by
      intro m144 Tm144 Fm144 ic146 ic147
      have q148_7 : 0 ≤ m144.1 7 ∧ m144.1 7 ≤ 330 := Tm144.1 7
      have q148_8 : 0 ≤ m144.1 8 ∧ m144.1 8 ≤ 4000 := Tm144.1 8
      have q148_9 : 0 ≤ m144.1 9 ∧ m144.1 9 ≤ 4000 := Tm144.1 9
      have q148_10 : 0 ≤ m144.1 10 ∧ m144.1 10 ≤ 8 := Tm144.1 10
      have q148_28 : 0 ≤ m144.1 28 ∧ m144.1 28 ≤ 800 := Tm144.1 28
      have q148_69 : 0 ≤ m144.1 69 ∧ m144.1 69 ≤ 1024 := Tm144.1 69
      have hNM := ic146
      refine T_gf 22 (.ref 258) rfl rfl rfl rfl rfl rfl ?_
      refine T_ld 23 (.int (i32 d)) rfl (fun _ => rfl) ?_
      refine T_gf 27 (.int (i32 (m144.1 28))) rfl rfl rfl rfl rfl rfl ?_
      have G151 : ∀ j, 0 ≤ (upI (m.2 96) d (m144.1 28)) j ∧ (upI (m.2 96) d (m144.1 28)) j ≤ 800 := upI_rg (hT.2.1 96) ⟨by omega, by omega⟩
      refine T_iast (a' := [(96, upI (m.2 96) d (m144.1 28))]) 28 96 (m.2 96) rfl rfl rfl (by omega) (show d < (16 : Int) by omega) (show (m144.2 96) = (m.2 96) from (fr2 Fm144 96 rfl)) rfl ?_
      refine T_gf 32 (.ref 213) rfl rfl rfl rfl rfl rfl ?_
      refine T_ld 33 (.int (i32 d)) rfl (fun _ => rfl) ?_
      refine T_gf 37 (.int (i32 (m144.1 69))) rfl rfl rfl rfl rfl rfl ?_
      have G152 : ∀ j, 0 ≤ (upI (m.2 43) d (m144.1 69)) j ∧ (upI (m.2 43) d (m144.1 69)) j ≤ 1024 := upI_rg (hT.2.1 43) ⟨by omega, by omega⟩
      refine T_iast (a' := [(43, upI (m.2 43) d (m144.1 69)), (96, upI (m.2 96) d (m144.1 28))]) 38 43 (m.2 43) rfl rfl rfl (by omega) (show d < (16 : Int) by omega) (show (m144.2 43) = (m.2 43) from (fr2 Fm144 43 rfl)) rfl ?_
      refine T_ld 39 (.ref 189) rfl (fun _ => rfl) ?_
      refine T_ld 41 (.int (i32 123)) rfl (fun _ => rfl) ?_
      refine T_call 44 232 [.ref 189, .int (i32 123)] [] rfl (fun _ => rfl) rfl (d_need w (mO m144 [] [(43, upI (m.2 43) d (m144.1 69)), (96, upI (m.2 96) d (m144.1 28))]) c N D (by omega) (Ty_mO Tm144 rfl rfl trivial ⟨G152, G151, trivial⟩) 123 ⟨by decide, by decide⟩ (show 1 ≤ (123 : Int) by omega) (show LxP (m144.1 7) (m144.1 8) (m144.1 9) (m144.1 6) (m144.1 10) by rewrite [(show (m144.1 6) = (m.1 6) from (fr1 Fm144 6 rfl))]; first | exact hLx | (intro h9; exfalso; omega) | (intro h9; have h8 := hLx (by omega); omega))) (fun rr153 k154 => ?_)
      obtain ⟨m155, Tm155, Fm155, h156, h157, h158, h159, rfl⟩ := k154
      refine ⟨_, _, rfl, ?_⟩
      refine T_nb (st' := []) rfl ?_
      have g160 : 0 ≤ m155.1 7 ∧ m155.1 7 ≤ 330 := Tm155.1 7
      have g161 : 0 ≤ m155.1 8 ∧ m155.1 8 ≤ 4000 := Tm155.1 8
      have g162 : 0 ≤ m155.1 9 ∧ m155.1 9 ≤ 4000 := Tm155.1 9
      have g163 : 0 ≤ m155.1 10 ∧ m155.1 10 ≤ 8 := Tm155.1 10
      replace h156 : LxP (m155.1 7) (m155.1 8) (m155.1 9) (m144.1 6) (m155.1 10) := h156
      rewrite [(show (m144.1 6) = (m.1 6) from (fr1 Fm144 6 rfl))] at h156
      replace h157 : (m155.1 10) = 0 → (m144.1 10) = 0 ∧ (m144.1 7) = (123 : Int) := h157
      replace h158 : (m144.1 8) ≤ (m155.1 8) := h158
      replace h159 : (m155.1 10) = 0 → (m144.1 8) + (m144.1 9) ≤ (m155.1 8) := h159
      have hf164 : 1 ≤ (m155.1 10) := by omega
      clear h157
      clear h159
      have hLx := h156
      clear q148_7 q148_8 q148_9 q148_10 ic147 h158
      exact J44_125 (mO m155 [] []) Tm155 (fr_m (fr_s Fm155 (fr_m (fr_s Fm144 (fr_m fr_0 rfl rfl) rfl rfl) rfl rfl) rfl rfl) rfl rfl) (show ∀ k, (m.2 14) k + (m.2 15) k ≤ 4000 by first | exact hNM) (show 1 ≤ (m155.1 10) by omega)
    refine T_ld 1 (.ref 189) rfl (fun _ => rfl) ?_
    refine T_call 4 212 [.ref 189] [] rfl (fun _ => rfl) rfl (d_next w (mO m [] []) c N D (by omega) hT (show (m.1 10) = 0 → (m.1 8) + (m.1 9) ≤ (m.1 6) by first | omega | (intro h9; have h8 := hLx h9; omega))) (fun rr165 k166 => ?_)
    obtain ⟨m167, Tm167, Fm167, h168, h169, h170, h171, rfl⟩ := k166
    refine ⟨_, _, rfl, ?_⟩
    refine T_nb (st' := []) rfl ?_
    have g172 : 0 ≤ m167.1 7 ∧ m167.1 7 ≤ 330 := Tm167.1 7
    have g173 : 0 ≤ m167.1 8 ∧ m167.1 8 ≤ 4000 := Tm167.1 8
    have g174 : 0 ≤ m167.1 9 ∧ m167.1 9 ≤ 4000 := Tm167.1 9
    have g175 : 0 ≤ m167.1 10 ∧ m167.1 10 ≤ 8 := Tm167.1 10
    by_cases hf176 : (m167.1 10) = 0
    · skip
      replace h168 : LxP (m167.1 7) (m167.1 8) (m167.1 9) (m.1 6) (m167.1 10) := h168
      have hLx := h168
      replace h169 : (m.1 10) = 0 := h169 hf176
      replace h170 : (m.1 8) ≤ (m167.1 8) := h170
      replace h171 : (m.1 8) + (m.1 9) ≤ (m167.1 8) := h171 hf176
      have u177 : (m.1 8) + 1 ≤ (m167.1 8) := by omega
      have u178 : (m.1 23) ≤ (m.1 23) := by omega
      refine T_gf 8 (.ref 257) rfl rfl rfl rfl rfl rfl ?_
      refine T_ld 9 (.int (i32 d)) rfl (fun _ => rfl) ?_
      refine T_gf 13 (.int (i32 (m.1 28))) rfl rfl rfl rfl (mfv_c (F := fun x => .int (i32 x)) rfl (show (m167.1 28) = (m.1 28) from (fr1 Fm167 28 rfl))) rfl ?_
      have G179 : ∀ j, 0 ≤ (upI (m.2 95) d (m.1 28)) j ∧ (upI (m.2 95) d (m.1 28)) j ≤ 800 := upI_rg (hT.2.1 95) ⟨by omega, by omega⟩
      refine T_iast (a' := [(95, upI (m.2 95) d (m.1 28))]) 14 95 (m.2 95) rfl rfl rfl (by omega) (show d < (16 : Int) by omega) (show (m167.2 95) = (m.2 95) from (fr2 Fm167 95 rfl)) rfl ?_
      refine T_ld 15 (.ref 189) rfl (fun _ => rfl) ?_
      refine T_call 18 244 [.ref 189] [] rfl (fun _ => rfl) rfl (c_readExpr w (mO m167 [] [(95, upI (m.2 95) d (m.1 28))]) c N D (by omega) (Ty_mO Tm167 rfl rfl trivial ⟨G179, trivial⟩) (show LxP (m167.1 7) (m167.1 8) (m167.1 9) (m167.1 6) (m167.1 10) by rewrite [(show (m167.1 6) = (m.1 6) from (fr1 Fm167 6 rfl))]; first | exact hLx | exact (fun _ => hLx (by omega)) | (intro h9; exfalso; omega)) (show ∀ k, (m167.2 14) k + (m167.2 15) k ≤ 4000 by rewrite [(show (m167.2 14) = (m.2 14) from (fr2 Fm167 14 rfl)), (show (m167.2 15) = (m.2 15) from (fr2 Fm167 15 rfl))]; assumption) (show ∀ k, (m167.2 31) k + (m167.2 32) k ≤ 4000 by rewrite [(show (m167.2 31) = (m.2 31) from (fr2 Fm167 31 rfl)), (show (m167.2 32) = (m.2 32) from (fr2 Fm167 32 rfl))]; assumption) (show ∀ k, (m167.2 47) k + (m167.2 48) k ≤ 4000 by rewrite [(show (m167.2 47) = (m.2 47) from (fr2 Fm167 47 rfl)), (show (m167.2 48) = (m.2 48) from (fr2 Fm167 48 rfl))]; assumption) (fun _ => ⟨(show PN (m167.1 13) (m167.1 19) (m167.1 20) (m167.1 21) (m167.1 22) (m167.1 23) (m167.1 25) (m167.1 26) (m167.2 16) (m167.2 17) by rewrite [(show (m167.1 13) = (m.1 13) from (fr1 Fm167 13 rfl)), (show (m167.1 19) = (m.1 19) from (fr1 Fm167 19 rfl)), (show (m167.1 20) = (m.1 20) from (fr1 Fm167 20 rfl)), (show (m167.1 21) = (m.1 21) from (fr1 Fm167 21 rfl)), (show (m167.1 22) = (m.1 22) from (fr1 Fm167 22 rfl)), (show (m167.1 23) = (m.1 23) from (fr1 Fm167 23 rfl)), (show (m167.1 25) = (m.1 25) from (fr1 Fm167 25 rfl)), (show (m167.1 26) = (m.1 26) from (fr1 Fm167 26 rfl)), (show (m167.2 16) = (m.2 16) from (fr2 Fm167 16 rfl)), (show (m167.2 17) = (m.2 17) from (fr2 Fm167 17 rfl))]; assumption), (show CN (m167.2 65) (m167.2 67) (m167.1 28) by rewrite [(show (m167.2 65) = (m.2 65) from (fr2 Fm167 65 rfl)), (show (m167.2 67) = (m.2 67) from (fr2 Fm167 67 rfl)), (show (m167.1 28) = (m.1 28) from (fr1 Fm167 28 rfl))]; assumption)⟩)) (fun rr180 k181 => ?_)
      obtain ⟨m182, Tm182, Fm182, h183, h184, c185, rfl⟩ := k181
      refine ⟨_, _, rfl, ?_⟩
      refine T_nb (st' := []) rfl ?_
      have g186 : 0 ≤ m182.1 7 ∧ m182.1 7 ≤ 330 := Tm182.1 7
      have g187 : 0 ≤ m182.1 8 ∧ m182.1 8 ≤ 4000 := Tm182.1 8
      have g188 : 0 ≤ m182.1 9 ∧ m182.1 9 ≤ 4000 := Tm182.1 9
      have g189 : 0 ≤ m182.1 10 ∧ m182.1 10 ≤ 8 := Tm182.1 10
      have g190 : 0 ≤ m182.1 28 ∧ m182.1 28 ≤ 800 := Tm182.1 28
      have g191 : 0 ≤ m182.1 69 ∧ m182.1 69 ≤ 1024 := Tm182.1 69
      by_cases hf192 : (m182.1 10) = 0
      · skip
        replace h183 : (m167.1 10) = 0 := h183 hf192
        replace h184 : LxP (m182.1 7) (m182.1 8) (m182.1 9) (m167.1 6) (m182.1 10) := h184
        rewrite [(show (m167.1 6) = (m.1 6) from (fr1 Fm167 6 rfl))] at h184
        have hLx := h184
        obtain ⟨c193, c194, c195, c196, c197, c198⟩ := c185 hf192
        replace c193 : (m167.1 8) + 1 ≤ (m182.1 8) := c193
        replace c194 : (m182.1 69) ≤ 64 := c194
        replace c195 : (m167.1 28) ≤ (m182.1 28) := c195
        rewrite [(show (m167.1 28) = (m.1 28) from (fr1 Fm167 28 rfl))] at c195
        replace c196 : okc (m182.2 65) (m167.1 28) (m182.1 28) := c196
        rewrite [(show (m167.1 28) = (m.1 28) from (fr1 Fm167 28 rfl))] at c196
        have hOk := c196
        replace c197 : CN (m182.2 65) (m182.2 67) (m182.1 28) := c197
        have hCN := c197
        replace c198 : agr (m167.2 65) (m182.2 65) (m167.1 28) := c198
        rewrite [(show (m167.2 65) = (m.2 65) from (fr2 Fm167 65 rfl)), (show (m167.1 28) = (m.1 28) from (fr1 Fm167 28 rfl))] at c198
        have hAg := c198
        clear c185
        have u199 : (m.1 8) + 1 ≤ (m182.1 8) := by omega
        have u200 : (m.1 28) ≤ (m182.1 28) := by omega
        have u201 : (m.1 23) ≤ (m.1 23) := by omega
        clear g172 g173 g174 g175 h168 h170 h171 u177 h183 c193
        refine T_gf 22 (.ref 258) rfl rfl rfl rfl rfl rfl ?_
        refine T_ld 23 (.int (i32 d)) rfl (fun _ => rfl) ?_
        refine T_gf 27 (.int (i32 (m182.1 28))) rfl rfl rfl rfl rfl rfl ?_
        have G202 : ∀ j, 0 ≤ (upI (m.2 96) d (m182.1 28)) j ∧ (upI (m.2 96) d (m182.1 28)) j ≤ 800 := upI_rg (hT.2.1 96) ⟨by omega, by omega⟩
        refine T_iast (a' := [(96, upI (m.2 96) d (m182.1 28))]) 28 96 (m.2 96) rfl rfl rfl (by omega) (show d < (16 : Int) by omega) (show (m182.2 96) = (m.2 96) from ((fr2 Fm182 96 rfl).trans (fr2 Fm167 96 rfl))) rfl ?_
        refine T_gf 32 (.ref 213) rfl rfl rfl rfl rfl rfl ?_
        refine T_ld 33 (.int (i32 d)) rfl (fun _ => rfl) ?_
        refine T_gf 37 (.int (i32 (m182.1 69))) rfl rfl rfl rfl rfl rfl ?_
        have G203 : ∀ j, 0 ≤ (upI (m.2 43) d (m182.1 69)) j ∧ (upI (m.2 43) d (m182.1 69)) j ≤ 1024 := upI_rg (hT.2.1 43) ⟨by omega, by omega⟩
        refine T_iast (a' := [(43, upI (m.2 43) d (m182.1 69)), (96, upI (m.2 96) d (m182.1 28))]) 38 43 (m.2 43) rfl rfl rfl (by omega) (show d < (16 : Int) by omega) (show (m182.2 43) = (m.2 43) from ((fr2 Fm182 43 rfl).trans (fr2 Fm167 43 rfl))) rfl ?_
        refine T_ld 39 (.ref 189) rfl (fun _ => rfl) ?_
        refine T_ld 41 (.int (i32 123)) rfl (fun _ => rfl) ?_
        have hB1 := agr_r (m.2 42) d
        have hB5 := agr_r (m.2 45) (8 * d)
        have hCT : ∀ c, 8 * d ≤ c → c < 8 * d + (m.2 42) d → (m.2 45) c < (m.1 23) := fun c c0 c1 => by rw [hc0] at c1; omega
        refine T_call 44 232 [.ref 189, .int (i32 123)] [] rfl (fun _ => rfl) rfl (d_need w (mO m182 [] [(43, upI (m.2 43) d (m182.1 69)), (96, upI (m.2 96) d (m182.1 28))]) c N D (by omega) (Ty_mO Tm182 rfl rfl trivial ⟨G203, G202, trivial⟩) 123 ⟨by decide, by decide⟩ (show 1 ≤ (123 : Int) by omega) (show LxP (m182.1 7) (m182.1 8) (m182.1 9) (m182.1 6) (m182.1 10) by rewrite [(show (m182.1 6) = (m.1 6) from ((fr1 Fm182 6 rfl).trans (fr1 Fm167 6 rfl)))]; first | exact hLx | (intro h9; exfalso; omega) | (intro h9; have h8 := hLx (by omega); omega))) (fun rr204 k205 => ?_)
        obtain ⟨m206, Tm206, Fm206, h207, h208, h209, h210, rfl⟩ := k205
        refine ⟨_, _, rfl, ?_⟩
        refine T_nb (st' := []) rfl ?_
        have g211 : 0 ≤ m206.1 7 ∧ m206.1 7 ≤ 330 := Tm206.1 7
        have g212 : 0 ≤ m206.1 8 ∧ m206.1 8 ≤ 4000 := Tm206.1 8
        have g213 : 0 ≤ m206.1 9 ∧ m206.1 9 ≤ 4000 := Tm206.1 9
        have g214 : 0 ≤ m206.1 10 ∧ m206.1 10 ≤ 8 := Tm206.1 10
        by_cases hf215 : (m206.1 10) = 0
        · skip
          replace h207 : LxP (m206.1 7) (m206.1 8) (m206.1 9) (m182.1 6) (m206.1 10) := h207
          rewrite [(show (m182.1 6) = (m.1 6) from ((fr1 Fm182 6 rfl).trans (fr1 Fm167 6 rfl)))] at h207
          have hLx := h207
          replace h208 : (m182.1 10) = 0 ∧ (m182.1 7) = (123 : Int) := h208 hf215
          replace h209 : (m182.1 8) ≤ (m206.1 8) := h209
          replace h210 : (m182.1 8) + (m182.1 9) ≤ (m206.1 8) := h210 hf215
          have u216 : (m.1 8) + 1 ≤ (m206.1 8) := by omega
          have u217 : (m.1 28) ≤ (m182.1 28) := by omega
          have u218 : (m.1 23) ≤ (m.1 23) := by omega
          clear g186 g187 g188 g189 h184 u199 h208 h209 h210
          have L44_220 : ∀ (n225 : Nat) (m219 : mR), Ty m219 → fr [7, 8, 9, 10, 11, 12, 13, 23] [14, 15, 16, 17, 37, 38, 42, 45, 97, 98] (mO m206 [] []) m219 → (LxP (m219.1 7) (m219.1 8) (m219.1 9) (m.1 6) (m219.1 10)) → (∀ k, (m219.2 14) k + (m219.2 15) k ≤ 4000) → ((m219.1 10) = 0 → (PN (m219.1 13) (m.1 19) (m.1 20) (m.1 21) (m.1 22) (m219.1 23) (m.1 25) (m.1 26) (m219.2 16) (m219.2 17)) ∧ (SOp (m219.2 38) (m219.1 23) (m.1 24)) ∧ (∀ c, 8 * d ≤ c → c < 8 * d + (m219.2 42) d → (m219.2 45) c < (m219.1 23)) ∧ (agr (m.2 42) (m219.2 42) d) ∧ (agr (m.2 45) (m219.2 45) (8 * d)) ∧ ((m.1 23) ≤ (m219.1 23)) ∧ ((m.1 8) + 1 ≤ (m219.1 8))) → 1000000 * (8 - (m219.1 10)) + (4000 - (m219.1 8)) < (n225 : Int) → TT w D pm_243 (44, [(0, .ref 189), (1, .int (i32 d))], [], (mhp (mO m219 [] []) c, N), 0, 0) (Q_takeSelect m c N d) := by
            intro n225
            induction n225 with
            | zero =>
              intro m219 Tm219 Fm219 ic221 ic222 c224 hmu
              have q223_7 : 0 ≤ m219.1 7 ∧ m219.1 7 ≤ 330 := Tm219.1 7
              have q223_8 : 0 ≤ m219.1 8 ∧ m219.1 8 ≤ 4000 := Tm219.1 8
              have q223_9 : 0 ≤ m219.1 9 ∧ m219.1 9 ≤ 4000 := Tm219.1 9
              have q223_10 : 0 ≤ m219.1 10 ∧ m219.1 10 ≤ 8 := Tm219.1 10
              have q223_13 : 0 ≤ m219.1 13 ∧ m219.1 13 ≤ 120 := Tm219.1 13
              have q223_23 : 0 ≤ m219.1 23 ∧ m219.1 23 ≤ 16 := Tm219.1 23
              have hLx := ic221
              have hNM := ic222
              have hB1c := hB1
              have hB5c := hB5
              exfalso
              omega
            | succ n225 ih =>
              intro m219 Tm219 Fm219 ic221 ic222 c224 hmu
              have q223_7 : 0 ≤ m219.1 7 ∧ m219.1 7 ≤ 330 := Tm219.1 7
              have q223_8 : 0 ≤ m219.1 8 ∧ m219.1 8 ≤ 4000 := Tm219.1 8
              have q223_9 : 0 ≤ m219.1 9 ∧ m219.1 9 ≤ 4000 := Tm219.1 9
              have q223_10 : 0 ≤ m219.1 10 ∧ m219.1 10 ≤ 8 := Tm219.1 10
              have q223_13 : 0 ≤ m219.1 13 ∧ m219.1 13 ≤ 120 := Tm219.1 13
              have q223_23 : 0 ≤ m219.1 23 ∧ m219.1 23 ≤ 16 := Tm219.1 23
              have hLx := ic221
              have hNM := ic222
              have ih226 := ih
              by_cases hf227 : (m219.1 10) = 0
              · skip
                obtain ⟨c228, c229, c230, c231, c232, c233, c234⟩ := c224 hf227
                clear c224
                have pPN := c228
                have pSO := c229
                have hCT := c230
                have hB1 := c231
                have hB5 := c232
                have hB1c := hB1
                have hB5c := hB5
                refine T_gf 48 (.int (i32 (m219.1 10))) rfl rfl rfl rfl rfl rfl ?_
                refine T_if 67 51 rfl rfl rfl (r32 (by omega) (by omega)) (fun (h235 : (m219.1 10) ≠ 0) => by exfalso; omega) (fun (h235 : ¬ ((m219.1 10) ≠ 0)) => ?_)
                refine T_gf 55 (.int (i32 (m219.1 7))) rfl rfl rfl rfl rfl rfl ?_
                refine T_ld 56 (.int (i32 2)) rfl (fun _ => rfl) ?_
                refine T_icmp 67 59 rfl rfl rfl (r32 (by omega) (by omega)) ⟨by decide, by decide⟩ (fun (h236 : (m219.1 7) ≠ 2) => ?_) (fun (h236 : ¬ ((m219.1 7) ≠ 2)) => ?_)
                · skip
                  refine T_ld 68 (.ref 189) rfl (fun _ => rfl) ?_
                  refine T_ld 71 (.int (i32 308)) rfl (fun _ => rfl) ?_
                  refine T_call 74 232 [.ref 189, .int (i32 308)] [] rfl (fun _ => rfl) rfl (d_need w (mO m219 [] []) c N D (by omega) Tm219 308 ⟨by decide, by decide⟩ (show 1 ≤ (308 : Int) by omega) (show LxP (m219.1 7) (m219.1 8) (m219.1 9) (m219.1 6) (m219.1 10) by rewrite [(show (m219.1 6) = (m.1 6) from ((fr1 Fm219 6 rfl).trans ((fr1 Fm206 6 rfl).trans ((fr1 Fm182 6 rfl).trans (fr1 Fm167 6 rfl)))))]; first | exact hLx | (intro h9; exfalso; omega) | (intro h9; have h8 := hLx (by omega); omega))) (fun rr237 k238 => ?_)
                  obtain ⟨m239, Tm239, Fm239, h240, h241, h242, h243, rfl⟩ := k238
                  refine ⟨_, _, rfl, ?_⟩
                  refine T_nb (st' := []) rfl ?_
                  have g244 : 0 ≤ m239.1 7 ∧ m239.1 7 ≤ 330 := Tm239.1 7
                  have g245 : 0 ≤ m239.1 8 ∧ m239.1 8 ≤ 4000 := Tm239.1 8
                  have g246 : 0 ≤ m239.1 9 ∧ m239.1 9 ≤ 4000 := Tm239.1 9
                  have g247 : 0 ≤ m239.1 10 ∧ m239.1 10 ≤ 8 := Tm239.1 10
                  by_cases hf248 : (m239.1 10) = 0
                  · skip
                    replace h240 : LxP (m239.1 7) (m239.1 8) (m239.1 9) (m219.1 6) (m239.1 10) := h240
                    rewrite [(show (m219.1 6) = (m.1 6) from ((fr1 Fm219 6 rfl).trans ((fr1 Fm206 6 rfl).trans ((fr1 Fm182 6 rfl).trans (fr1 Fm167 6 rfl)))))] at h240
                    have hLx := h240
                    replace h241 : (m219.1 10) = 0 ∧ (m219.1 7) = (308 : Int) := h241 hf248
                    replace h242 : (m219.1 8) ≤ (m239.1 8) := h242
                    replace h243 : (m219.1 8) + (m219.1 9) ≤ (m239.1 8) := h243 hf248
                    have u249 : (m.1 8) + 1 ≤ (m239.1 8) := by omega
                    have u250 : (m.1 28) ≤ (m182.1 28) := by omega
                    have u251 : (m.1 23) ≤ (m219.1 23) := by omega
                    clear g211 g212 g213 g214 h207 u216 q223_7 q223_9 ic221 h236 h241 h243
                    refine T_ld 75 (.ref 189) rfl (fun _ => rfl) ?_
                    refine T_ld 77 (.int (i32 58)) rfl (fun _ => rfl) ?_
                    refine T_call 80 232 [.ref 189, .int (i32 58)] [] rfl (fun _ => rfl) rfl (d_need w (mO m239 [] []) c N D (by omega) Tm239 58 ⟨by decide, by decide⟩ (show 1 ≤ (58 : Int) by omega) (show LxP (m239.1 7) (m239.1 8) (m239.1 9) (m239.1 6) (m239.1 10) by rewrite [(show (m239.1 6) = (m.1 6) from ((fr1 Fm239 6 rfl).trans ((fr1 Fm219 6 rfl).trans ((fr1 Fm206 6 rfl).trans ((fr1 Fm182 6 rfl).trans (fr1 Fm167 6 rfl))))))]; first | exact hLx | (intro h9; exfalso; omega) | (intro h9; have h8 := hLx (by omega); omega))) (fun rr252 k253 => ?_)
                    obtain ⟨m254, Tm254, Fm254, h255, h256, h257, h258, rfl⟩ := k253
                    refine ⟨_, _, rfl, ?_⟩
                    refine T_nb (st' := []) rfl ?_
                    have g259 : 0 ≤ m254.1 7 ∧ m254.1 7 ≤ 330 := Tm254.1 7
                    have g260 : 0 ≤ m254.1 8 ∧ m254.1 8 ≤ 4000 := Tm254.1 8
                    have g261 : 0 ≤ m254.1 9 ∧ m254.1 9 ≤ 4000 := Tm254.1 9
                    have g262 : 0 ≤ m254.1 10 ∧ m254.1 10 ≤ 8 := Tm254.1 10
                    by_cases hf263 : (m254.1 10) = 0
                    · skip
                      replace h255 : LxP (m254.1 7) (m254.1 8) (m254.1 9) (m239.1 6) (m254.1 10) := h255
                      rewrite [(show (m239.1 6) = (m.1 6) from ((fr1 Fm239 6 rfl).trans ((fr1 Fm219 6 rfl).trans ((fr1 Fm206 6 rfl).trans ((fr1 Fm182 6 rfl).trans (fr1 Fm167 6 rfl))))))] at h255
                      have hLx := h255
                      replace h256 : (m239.1 10) = 0 ∧ (m239.1 7) = (58 : Int) := h256 hf263
                      replace h257 : (m239.1 8) ≤ (m254.1 8) := h257
                      replace h258 : (m239.1 8) + (m239.1 9) ≤ (m254.1 8) := h258 hf263
                      have u264 : (m.1 8) + 1 ≤ (m254.1 8) := by omega
                      have u265 : (m.1 28) ≤ (m182.1 28) := by omega
                      have u266 : (m.1 23) ≤ (m219.1 23) := by omega
                      clear g244 g245 g246 g247 h240 h242 u249 h256 h257 h258
                      refine T_gf 84 (.ref 214) rfl rfl rfl rfl rfl rfl ?_
                      refine T_ld 85 (.int (i32 d)) rfl (fun _ => rfl) ?_
                      refine T_ld 86 (.ref 189) rfl (fun _ => rfl) ?_
                      refine T_call 89 242 [.ref 189] [.int (i32 d), .ref 214] rfl (fun _ => rfl) rfl (c_stateHere w (mO m254 [] []) c N D (by omega) Tm254 (show LxP (m254.1 7) (m254.1 8) (m254.1 9) (m254.1 6) (m254.1 10) by rewrite [(show (m254.1 6) = (m.1 6) from ((fr1 Fm254 6 rfl).trans ((fr1 Fm239 6 rfl).trans ((fr1 Fm219 6 rfl).trans ((fr1 Fm206 6 rfl).trans ((fr1 Fm182 6 rfl).trans (fr1 Fm167 6 rfl)))))))]; first | exact hLx | exact (fun _ => hLx (by omega)) | (intro h9; exfalso; omega)) (show ∀ k, (m254.2 14) k + (m254.2 15) k ≤ 4000 by rewrite [(show (m254.2 14) = (m219.2 14) from ((fr2 Fm254 14 rfl).trans (fr2 Fm239 14 rfl))), (show (m254.2 15) = (m219.2 15) from ((fr2 Fm254 15 rfl).trans (fr2 Fm239 15 rfl)))]; assumption) (fun _ => ⟨(show PN (m254.1 13) (m254.1 19) (m254.1 20) (m254.1 21) (m254.1 22) (m254.1 23) (m254.1 25) (m254.1 26) (m254.2 16) (m254.2 17) by rewrite [(show (m254.1 13) = (m219.1 13) from ((fr1 Fm254 13 rfl).trans (fr1 Fm239 13 rfl))), (show (m254.1 19) = (m.1 19) from ((fr1 Fm254 19 rfl).trans ((fr1 Fm239 19 rfl).trans ((fr1 Fm219 19 rfl).trans ((fr1 Fm206 19 rfl).trans ((fr1 Fm182 19 rfl).trans (fr1 Fm167 19 rfl))))))), (show (m254.1 20) = (m.1 20) from ((fr1 Fm254 20 rfl).trans ((fr1 Fm239 20 rfl).trans ((fr1 Fm219 20 rfl).trans ((fr1 Fm206 20 rfl).trans ((fr1 Fm182 20 rfl).trans (fr1 Fm167 20 rfl))))))), (show (m254.1 21) = (m.1 21) from ((fr1 Fm254 21 rfl).trans ((fr1 Fm239 21 rfl).trans ((fr1 Fm219 21 rfl).trans ((fr1 Fm206 21 rfl).trans ((fr1 Fm182 21 rfl).trans (fr1 Fm167 21 rfl))))))), (show (m254.1 22) = (m.1 22) from ((fr1 Fm254 22 rfl).trans ((fr1 Fm239 22 rfl).trans ((fr1 Fm219 22 rfl).trans ((fr1 Fm206 22 rfl).trans ((fr1 Fm182 22 rfl).trans (fr1 Fm167 22 rfl))))))), (show (m254.1 23) = (m219.1 23) from ((fr1 Fm254 23 rfl).trans (fr1 Fm239 23 rfl))), (show (m254.1 25) = (m.1 25) from ((fr1 Fm254 25 rfl).trans ((fr1 Fm239 25 rfl).trans ((fr1 Fm219 25 rfl).trans ((fr1 Fm206 25 rfl).trans ((fr1 Fm182 25 rfl).trans (fr1 Fm167 25 rfl))))))), (show (m254.1 26) = (m.1 26) from ((fr1 Fm254 26 rfl).trans ((fr1 Fm239 26 rfl).trans ((fr1 Fm219 26 rfl).trans ((fr1 Fm206 26 rfl).trans ((fr1 Fm182 26 rfl).trans (fr1 Fm167 26 rfl))))))), (show (m254.2 16) = (m219.2 16) from ((fr2 Fm254 16 rfl).trans (fr2 Fm239 16 rfl))), (show (m254.2 17) = (m219.2 17) from ((fr2 Fm254 17 rfl).trans (fr2 Fm239 17 rfl)))]; assumption), (show SOp (m254.2 38) (m254.1 23) (m254.1 24) by rewrite [(show (m254.2 38) = (m219.2 38) from ((fr2 Fm254 38 rfl).trans (fr2 Fm239 38 rfl))), (show (m254.1 23) = (m219.1 23) from ((fr1 Fm254 23 rfl).trans (fr1 Fm239 23 rfl))), (show (m254.1 24) = (m.1 24) from ((fr1 Fm254 24 rfl).trans ((fr1 Fm239 24 rfl).trans ((fr1 Fm219 24 rfl).trans ((fr1 Fm206 24 rfl).trans ((fr1 Fm182 24 rfl).trans (fr1 Fm167 24 rfl)))))))]; first | exact pSO | assumption)⟩)) (fun rr267 k268 => ?_)
                      obtain ⟨m269, x270, Tm269, Fm269, g271, h272, h273, h274, c275, rfl⟩ := k268
                      refine ⟨_, _, rfl, ?_⟩
                      refine T_nb (st' := [.int (i32 x270), .int (i32 d), .ref 214]) rfl ?_
                      obtain ⟨g271a, g271b⟩ := g271
                      have g276 : 0 ≤ m269.1 7 ∧ m269.1 7 ≤ 330 := Tm269.1 7
                      have g277 : 0 ≤ m269.1 8 ∧ m269.1 8 ≤ 4000 := Tm269.1 8
                      have g278 : 0 ≤ m269.1 9 ∧ m269.1 9 ≤ 4000 := Tm269.1 9
                      have g279 : 0 ≤ m269.1 10 ∧ m269.1 10 ≤ 8 := Tm269.1 10
                      have g280 : 0 ≤ m269.1 13 ∧ m269.1 13 ≤ 120 := Tm269.1 13
                      have g281 : 0 ≤ m269.1 23 ∧ m269.1 23 ≤ 16 := Tm269.1 23
                      by_cases hf282 : (m269.1 10) = 0
                      · skip
                        replace h272 : (m254.1 10) = 0 := h272 hf282
                        replace h273 : LxP (m269.1 7) (m269.1 8) (m269.1 9) (m254.1 6) (m269.1 10) := h273
                        rewrite [(show (m254.1 6) = (m.1 6) from ((fr1 Fm254 6 rfl).trans ((fr1 Fm239 6 rfl).trans ((fr1 Fm219 6 rfl).trans ((fr1 Fm206 6 rfl).trans ((fr1 Fm182 6 rfl).trans (fr1 Fm167 6 rfl)))))))] at h273
                        have hLx := h273
                        replace h274 : ∀ k, (m269.2 14) k + (m269.2 15) k ≤ 4000 := h274
                        have hNM := h274
                        obtain ⟨c283, c284, c285, c286, c287⟩ := c275 hf282
                        replace c283 : (m254.1 8) + 1 ≤ (m269.1 8) := c283
                        replace c284 : PN (m269.1 13) (m254.1 19) (m254.1 20) (m254.1 21) (m254.1 22) (m269.1 23) (m254.1 25) (m254.1 26) (m269.2 16) (m269.2 17) := c284
                        rewrite [(show (m254.1 19) = (m.1 19) from ((fr1 Fm254 19 rfl).trans ((fr1 Fm239 19 rfl).trans ((fr1 Fm219 19 rfl).trans ((fr1 Fm206 19 rfl).trans ((fr1 Fm182 19 rfl).trans (fr1 Fm167 19 rfl))))))), (show (m254.1 20) = (m.1 20) from ((fr1 Fm254 20 rfl).trans ((fr1 Fm239 20 rfl).trans ((fr1 Fm219 20 rfl).trans ((fr1 Fm206 20 rfl).trans ((fr1 Fm182 20 rfl).trans (fr1 Fm167 20 rfl))))))), (show (m254.1 21) = (m.1 21) from ((fr1 Fm254 21 rfl).trans ((fr1 Fm239 21 rfl).trans ((fr1 Fm219 21 rfl).trans ((fr1 Fm206 21 rfl).trans ((fr1 Fm182 21 rfl).trans (fr1 Fm167 21 rfl))))))), (show (m254.1 22) = (m.1 22) from ((fr1 Fm254 22 rfl).trans ((fr1 Fm239 22 rfl).trans ((fr1 Fm219 22 rfl).trans ((fr1 Fm206 22 rfl).trans ((fr1 Fm182 22 rfl).trans (fr1 Fm167 22 rfl))))))), (show (m254.1 25) = (m.1 25) from ((fr1 Fm254 25 rfl).trans ((fr1 Fm239 25 rfl).trans ((fr1 Fm219 25 rfl).trans ((fr1 Fm206 25 rfl).trans ((fr1 Fm182 25 rfl).trans (fr1 Fm167 25 rfl))))))), (show (m254.1 26) = (m.1 26) from ((fr1 Fm254 26 rfl).trans ((fr1 Fm239 26 rfl).trans ((fr1 Fm219 26 rfl).trans ((fr1 Fm206 26 rfl).trans ((fr1 Fm182 26 rfl).trans (fr1 Fm167 26 rfl)))))))] at c284
                        have pPN := c284
                        replace c285 : SOp (m269.2 38) (m269.1 23) (m254.1 24) := c285
                        rewrite [(show (m254.1 24) = (m.1 24) from ((fr1 Fm254 24 rfl).trans ((fr1 Fm239 24 rfl).trans ((fr1 Fm219 24 rfl).trans ((fr1 Fm206 24 rfl).trans ((fr1 Fm182 24 rfl).trans (fr1 Fm167 24 rfl)))))))] at c285
                        have pSO := c285
                        replace c286 : x270 < (m269.1 23) := c286
                        have hRS := c286
                        replace c287 : (m254.1 23) ≤ (m269.1 23) := c287
                        rewrite [(show (m254.1 23) = (m219.1 23) from ((fr1 Fm254 23 rfl).trans (fr1 Fm239 23 rfl)))] at c287
                        clear c275
                        have u288 : (m.1 8) + 1 ≤ (m269.1 8) := by omega
                        have u289 : (m.1 28) ≤ (m182.1 28) := by omega
                        have u290 : (m.1 23) ≤ (m269.1 23) := by omega
                        clear q223_13 ic222 c228 c229 g259 g260 g261 g262 h255 u264 h272 c283
                        have G291 : ∀ j, (-2) ≤ (upI (m.2 44) d x270) j ∧ (upI (m.2 44) d x270) j ≤ 15 := upI_rg (hT.2.1 44) ⟨by omega, by omega⟩
                        refine T_iast (a' := [(44, upI (m.2 44) d x270)]) 90 44 (m.2 44) rfl rfl rfl (by omega) (show d < (16 : Int) by omega) (show (m269.2 44) = (m.2 44) from ((fr2 Fm269 44 rfl).trans ((fr2 Fm254 44 rfl).trans ((fr2 Fm239 44 rfl).trans ((fr2 Fm219 44 rfl).trans ((fr2 Fm206 44 rfl).trans ((fr2 Fm182 44 rfl).trans (fr2 Fm167 44 rfl)))))))) rfl ?_
                        refine T_ld 91 (.ref 189) rfl (fun _ => rfl) ?_
                        refine T_ld 93 (.int (i32 59)) rfl (fun _ => rfl) ?_
                        refine T_call 96 232 [.ref 189, .int (i32 59)] [] rfl (fun _ => rfl) rfl (d_need w (mO m269 [] [(44, upI (m.2 44) d x270)]) c N D (by omega) (Ty_mO Tm269 rfl rfl trivial ⟨G291, trivial⟩) 59 ⟨by decide, by decide⟩ (show 1 ≤ (59 : Int) by omega) (show LxP (m269.1 7) (m269.1 8) (m269.1 9) (m269.1 6) (m269.1 10) by rewrite [(show (m269.1 6) = (m.1 6) from ((fr1 Fm269 6 rfl).trans ((fr1 Fm254 6 rfl).trans ((fr1 Fm239 6 rfl).trans ((fr1 Fm219 6 rfl).trans ((fr1 Fm206 6 rfl).trans ((fr1 Fm182 6 rfl).trans (fr1 Fm167 6 rfl))))))))]; first | exact hLx | (intro h9; exfalso; omega) | (intro h9; have h8 := hLx (by omega); omega))) (fun rr292 k293 => ?_)
                        obtain ⟨m294, Tm294, Fm294, h295, h296, h297, h298, rfl⟩ := k293
                        refine ⟨_, _, rfl, ?_⟩
                        refine T_nb (st' := []) rfl ?_
                        have g299 : 0 ≤ m294.1 7 ∧ m294.1 7 ≤ 330 := Tm294.1 7
                        have g300 : 0 ≤ m294.1 8 ∧ m294.1 8 ≤ 4000 := Tm294.1 8
                        have g301 : 0 ≤ m294.1 9 ∧ m294.1 9 ≤ 4000 := Tm294.1 9
                        have g302 : 0 ≤ m294.1 10 ∧ m294.1 10 ≤ 8 := Tm294.1 10
                        by_cases hf303 : (m294.1 10) = 0
                        · skip
                          replace h295 : LxP (m294.1 7) (m294.1 8) (m294.1 9) (m269.1 6) (m294.1 10) := h295
                          rewrite [(show (m269.1 6) = (m.1 6) from ((fr1 Fm269 6 rfl).trans ((fr1 Fm254 6 rfl).trans ((fr1 Fm239 6 rfl).trans ((fr1 Fm219 6 rfl).trans ((fr1 Fm206 6 rfl).trans ((fr1 Fm182 6 rfl).trans (fr1 Fm167 6 rfl))))))))] at h295
                          have hLx := h295
                          replace h296 : (m269.1 10) = 0 ∧ (m269.1 7) = (59 : Int) := h296 hf303
                          replace h297 : (m269.1 8) ≤ (m294.1 8) := h297
                          replace h298 : (m269.1 8) + (m269.1 9) ≤ (m294.1 8) := h298 hf303
                          have u304 : (m.1 8) + 1 ≤ (m294.1 8) := by omega
                          have u305 : (m.1 28) ≤ (m182.1 28) := by omega
                          have u306 : (m.1 23) ≤ (m269.1 23) := by omega
                          clear g276 g277 g278 g279 h273 u288 h296 h297 h298
                          refine T_ld 97 (.ref 189) rfl (fun _ => rfl) ?_
                          refine T_ld 99 (.int (i32 125)) rfl (fun _ => rfl) ?_
                          refine T_call 102 232 [.ref 189, .int (i32 125)] [] rfl (fun _ => rfl) rfl (d_need w (mO m294 [] []) c N D (by omega) Tm294 125 ⟨by decide, by decide⟩ (show 1 ≤ (125 : Int) by omega) (show LxP (m294.1 7) (m294.1 8) (m294.1 9) (m294.1 6) (m294.1 10) by rewrite [(show (m294.1 6) = (m.1 6) from ((fr1 Fm294 6 rfl).trans ((fr1 Fm269 6 rfl).trans ((fr1 Fm254 6 rfl).trans ((fr1 Fm239 6 rfl).trans ((fr1 Fm219 6 rfl).trans ((fr1 Fm206 6 rfl).trans ((fr1 Fm182 6 rfl).trans (fr1 Fm167 6 rfl)))))))))]; first | exact hLx | (intro h9; exfalso; omega) | (intro h9; have h8 := hLx (by omega); omega))) (fun rr307 k308 => ?_)
                          obtain ⟨m309, Tm309, Fm309, h310, h311, h312, h313, rfl⟩ := k308
                          refine ⟨_, _, rfl, ?_⟩
                          refine T_nb (st' := []) rfl ?_
                          have g314 : 0 ≤ m309.1 7 ∧ m309.1 7 ≤ 330 := Tm309.1 7
                          have g315 : 0 ≤ m309.1 8 ∧ m309.1 8 ≤ 4000 := Tm309.1 8
                          have g316 : 0 ≤ m309.1 9 ∧ m309.1 9 ≤ 4000 := Tm309.1 9
                          have g317 : 0 ≤ m309.1 10 ∧ m309.1 10 ≤ 8 := Tm309.1 10
                          by_cases hf318 : (m309.1 10) = 0
                          · skip
                            replace h310 : LxP (m309.1 7) (m309.1 8) (m309.1 9) (m294.1 6) (m309.1 10) := h310
                            rewrite [(show (m294.1 6) = (m.1 6) from ((fr1 Fm294 6 rfl).trans ((fr1 Fm269 6 rfl).trans ((fr1 Fm254 6 rfl).trans ((fr1 Fm239 6 rfl).trans ((fr1 Fm219 6 rfl).trans ((fr1 Fm206 6 rfl).trans ((fr1 Fm182 6 rfl).trans (fr1 Fm167 6 rfl)))))))))] at h310
                            have hLx := h310
                            replace h311 : (m294.1 10) = 0 ∧ (m294.1 7) = (125 : Int) := h311 hf318
                            replace h312 : (m294.1 8) ≤ (m309.1 8) := h312
                            replace h313 : (m294.1 8) + (m294.1 9) ≤ (m309.1 8) := h313 hf318
                            have u319 : (m.1 8) + 1 ≤ (m309.1 8) := by omega
                            have u320 : (m.1 28) ≤ (m182.1 28) := by omega
                            have u321 : (m.1 23) ≤ (m269.1 23) := by omega
                            clear g299 g300 g301 g302 h295 u304 h311 h312 h313
                            refine T_ret rfl (fun _ => rfl) ?_
                            exact ⟨(mO m309 [] []), Tm309, (fr_m (fr_s Fm309 (fr_m (fr_s Fm294 (fr_m (fr_s Fm269 (fr_m (fr_s Fm254 (fr_m (fr_s Fm239 (fr_m (fr_s Fm219 (fr_m (fr_s Fm206 (fr_m (fr_s Fm182 (fr_m (fr_s Fm167 (fr_m fr_0 rfl rfl) rfl rfl) rfl rfl) rfl rfl) rfl rfl) rfl rfl) rfl rfl) rfl rfl) rfl rfl) rfl rfl) rfl rfl) rfl rfl) rfl rfl) rfl rfl) rfl rfl) rfl rfl) rfl rfl) rfl rfl) rfl rfl), (show (m309.1 10) = 0 → (m.1 10) = 0 by omega), (show LxP (m309.1 7) (m309.1 8) (m309.1 9) (m.1 6) (m309.1 10) by first | (first | exact hLx | exact (fun _ => hLx (by omega)) | (intro h9; exfalso; omega)) | (exfalso; omega)), (show ∀ k, (m309.2 14) k + (m309.2 15) k ≤ 4000 by rewrite [(show (m309.2 14) = (m269.2 14) from ((fr2 Fm309 14 rfl).trans (fr2 Fm294 14 rfl))), (show (m309.2 15) = (m269.2 15) from ((fr2 Fm309 15 rfl).trans (fr2 Fm294 15 rfl)))]; first | (first | exact hNM | (intro k; rw [hE1, hE2]; have := hNM k; have h7 := hLx0 hf0; unfold upI; split <;> omega)) | (exfalso; omega)), (fun _ => ⟨(show (m.1 8) + 1 ≤ (m309.1 8) by omega), (show PN (m309.1 13) (m.1 19) (m.1 20) (m.1 21) (m.1 22) (m309.1 23) (m.1 25) (m.1 26) (m309.2 16) (m309.2 17) by rewrite [(show (m309.1 13) = (m269.1 13) from ((fr1 Fm309 13 rfl).trans (fr1 Fm294 13 rfl))), (show (m309.1 23) = (m269.1 23) from ((fr1 Fm309 23 rfl).trans (fr1 Fm294 23 rfl))), (show (m309.2 16) = (m269.2 16) from ((fr2 Fm309 16 rfl).trans (fr2 Fm294 16 rfl))), (show (m309.2 17) = (m269.2 17) from ((fr2 Fm309 17 rfl).trans (fr2 Fm294 17 rfl)))]; first | (exact pPN) | (exfalso; omega)), (show CN (m309.2 65) (m309.2 67) (m309.1 28) by rewrite [(show (m309.2 65) = (m182.2 65) from ((fr2 Fm309 65 rfl).trans ((fr2 Fm294 65 rfl).trans ((fr2 Fm269 65 rfl).trans ((fr2 Fm254 65 rfl).trans ((fr2 Fm239 65 rfl).trans ((fr2 Fm219 65 rfl).trans (fr2 Fm206 65 rfl)))))))), (show (m309.2 67) = (m182.2 67) from ((fr2 Fm309 67 rfl).trans ((fr2 Fm294 67 rfl).trans ((fr2 Fm269 67 rfl).trans ((fr2 Fm254 67 rfl).trans ((fr2 Fm239 67 rfl).trans ((fr2 Fm219 67 rfl).trans (fr2 Fm206 67 rfl)))))))), (show (m309.1 28) = (m182.1 28) from ((fr1 Fm309 28 rfl).trans ((fr1 Fm294 28 rfl).trans ((fr1 Fm269 28 rfl).trans ((fr1 Fm254 28 rfl).trans ((fr1 Fm239 28 rfl).trans ((fr1 Fm219 28 rfl).trans (fr1 Fm206 28 rfl))))))))]; first | (exact hCN) | (exfalso; omega)), (show SOp (m309.2 38) (m309.1 23) (m.1 24) by rewrite [(show (m309.2 38) = (m269.2 38) from ((fr2 Fm309 38 rfl).trans (fr2 Fm294 38 rfl))), (show (m309.1 23) = (m269.1 23) from ((fr1 Fm309 23 rfl).trans (fr1 Fm294 23 rfl)))]; first | (exact pSO) | (exfalso; omega)), (show (m.1 23) ≤ (m309.1 23) by rewrite [(show (m309.1 23) = (m269.1 23) from ((fr1 Fm309 23 rfl).trans (fr1 Fm294 23 rfl)))]; omega), (show (m.1 28) ≤ (m309.1 28) by rewrite [(show (m309.1 28) = (m182.1 28) from ((fr1 Fm309 28 rfl).trans ((fr1 Fm294 28 rfl).trans ((fr1 Fm269 28 rfl).trans ((fr1 Fm254 28 rfl).trans ((fr1 Fm239 28 rfl).trans ((fr1 Fm219 28 rfl).trans (fr1 Fm206 28 rfl))))))))]; omega), (show agr (m.2 65) (m309.2 65) (m.1 28) by rewrite [(show (m309.2 65) = (m182.2 65) from ((fr2 Fm309 65 rfl).trans ((fr2 Fm294 65 rfl).trans ((fr2 Fm269 65 rfl).trans ((fr2 Fm254 65 rfl).trans ((fr2 Fm239 65 rfl).trans ((fr2 Fm219 65 rfl).trans (fr2 Fm206 65 rfl))))))))]; first | (exact hAg) | (exfalso; omega)), (show agr (m.2 42) (m309.2 42) d by rewrite [(show (m309.2 42) = (m219.2 42) from ((fr2 Fm309 42 rfl).trans ((fr2 Fm294 42 rfl).trans ((fr2 Fm269 42 rfl).trans ((fr2 Fm254 42 rfl).trans (fr2 Fm239 42 rfl))))))]; first | (exact hB1) | (exfalso; omega)), (show agr (m.2 95) (m309.2 95) d by rewrite [(show (m309.2 95) = (upI (m.2 95) d (m.1 28)) from ((fr2 Fm309 95 rfl).trans ((fr2 Fm294 95 rfl).trans ((fr2 Fm269 95 rfl).trans ((fr2 Fm254 95 rfl).trans ((fr2 Fm239 95 rfl).trans ((fr2 Fm219 95 rfl).trans ((fr2 Fm206 95 rfl).trans (fr2 Fm182 95 rfl)))))))))]; first | (exact agr_u (Int.le_refl _)) | (exfalso; omega)), (show agr (m.2 96) (m309.2 96) d by rewrite [(show (m309.2 96) = (upI (m.2 96) d (m182.1 28)) from ((fr2 Fm309 96 rfl).trans ((fr2 Fm294 96 rfl).trans ((fr2 Fm269 96 rfl).trans ((fr2 Fm254 96 rfl).trans ((fr2 Fm239 96 rfl).trans ((fr2 Fm219 96 rfl).trans (fr2 Fm206 96 rfl))))))))]; first | (exact agr_u (Int.le_refl _)) | (exfalso; omega)), (show agr (m.2 44) (m309.2 44) d by rewrite [(show (m309.2 44) = (upI (m.2 44) d x270) from ((fr2 Fm309 44 rfl).trans (fr2 Fm294 44 rfl)))]; first | (exact agr_u (Int.le_refl _)) | (exfalso; omega)), (show agr (m.2 45) (m309.2 45) (8 * d) by rewrite [(show (m309.2 45) = (m219.2 45) from ((fr2 Fm309 45 rfl).trans ((fr2 Fm294 45 rfl).trans ((fr2 Fm269 45 rfl).trans ((fr2 Fm254 45 rfl).trans (fr2 Fm239 45 rfl))))))]; first | (exact hB5) | (exfalso; omega)), (show StR (m309.2 65) (m309.1 28) (m309.1 23) d (m309.2 42) (m309.2 95) (m309.2 96) (m309.2 44) (m309.2 45) by rewrite [(show (m309.2 65) = (m182.2 65) from ((fr2 Fm309 65 rfl).trans ((fr2 Fm294 65 rfl).trans ((fr2 Fm269 65 rfl).trans ((fr2 Fm254 65 rfl).trans ((fr2 Fm239 65 rfl).trans ((fr2 Fm219 65 rfl).trans (fr2 Fm206 65 rfl)))))))), (show (m309.1 28) = (m182.1 28) from ((fr1 Fm309 28 rfl).trans ((fr1 Fm294 28 rfl).trans ((fr1 Fm269 28 rfl).trans ((fr1 Fm254 28 rfl).trans ((fr1 Fm239 28 rfl).trans ((fr1 Fm219 28 rfl).trans (fr1 Fm206 28 rfl)))))))), (show (m309.1 23) = (m269.1 23) from ((fr1 Fm309 23 rfl).trans (fr1 Fm294 23 rfl))), (show (m309.2 42) = (m219.2 42) from ((fr2 Fm309 42 rfl).trans ((fr2 Fm294 42 rfl).trans ((fr2 Fm269 42 rfl).trans ((fr2 Fm254 42 rfl).trans (fr2 Fm239 42 rfl)))))), (show (m309.2 95) = (upI (m.2 95) d (m.1 28)) from ((fr2 Fm309 95 rfl).trans ((fr2 Fm294 95 rfl).trans ((fr2 Fm269 95 rfl).trans ((fr2 Fm254 95 rfl).trans ((fr2 Fm239 95 rfl).trans ((fr2 Fm219 95 rfl).trans ((fr2 Fm206 95 rfl).trans (fr2 Fm182 95 rfl))))))))), (show (m309.2 96) = (upI (m.2 96) d (m182.1 28)) from ((fr2 Fm309 96 rfl).trans ((fr2 Fm294 96 rfl).trans ((fr2 Fm269 96 rfl).trans ((fr2 Fm254 96 rfl).trans ((fr2 Fm239 96 rfl).trans ((fr2 Fm219 96 rfl).trans (fr2 Fm206 96 rfl)))))))), (show (m309.2 44) = (upI (m.2 44) d x270) from ((fr2 Fm309 44 rfl).trans (fr2 Fm294 44 rfl))), (show (m309.2 45) = (m219.2 45) from ((fr2 Fm309 45 rfl).trans ((fr2 Fm294 45 rfl).trans ((fr2 Fm269 45 rfl).trans ((fr2 Fm254 45 rfl).trans (fr2 Fm239 45 rfl))))))]; first | (exact ⟨fun _ => by rw [upI_s, upI_s]; exact ⟨hOk, by omega⟩, by rw [upI_s]; omega, fun c c0 c1 => by have := hCT c c0 c1; omega⟩) | (exfalso; omega))⟩), rfl⟩
                          · skip
                            replace h310 : LxP (m309.1 7) (m309.1 8) (m309.1 9) (m294.1 6) (m309.1 10) := h310
                            rewrite [(show (m294.1 6) = (m.1 6) from ((fr1 Fm294 6 rfl).trans ((fr1 Fm269 6 rfl).trans ((fr1 Fm254 6 rfl).trans ((fr1 Fm239 6 rfl).trans ((fr1 Fm219 6 rfl).trans ((fr1 Fm206 6 rfl).trans ((fr1 Fm182 6 rfl).trans (fr1 Fm167 6 rfl)))))))))] at h310
                            have hLx := h310
                            clear h311
                            replace h312 : (m294.1 8) ≤ (m309.1 8) := h312
                            clear h313
                            have hf322 : 1 ≤ (m309.1 10) := by omega
                            clear g299 g300 g301 g302 h295 u304 h312
                            exact J102_13 (mO m309 [] []) Tm309 (fr_m (fr_s Fm309 (fr_m (fr_s Fm294 (fr_m (fr_s Fm269 (fr_m (fr_s Fm254 (fr_m (fr_s Fm239 (fr_m (fr_s Fm219 (fr_m (fr_s Fm206 (fr_m (fr_s Fm182 (fr_m (fr_s Fm167 (fr_m fr_0 rfl rfl) rfl rfl) rfl rfl) rfl rfl) rfl rfl) rfl rfl) rfl rfl) rfl rfl) rfl rfl) rfl rfl) rfl rfl) rfl rfl) rfl rfl) rfl rfl) rfl rfl) rfl rfl) rfl rfl) rfl rfl) rfl rfl) (show ∀ k, (m309.2 14) k + (m309.2 15) k ≤ 4000 by rewrite [(show (m309.2 14) = (m269.2 14) from ((fr2 Fm309 14 rfl).trans (fr2 Fm294 14 rfl))), (show (m309.2 15) = (m269.2 15) from ((fr2 Fm309 15 rfl).trans (fr2 Fm294 15 rfl)))]; first | exact hNM) (show 1 ≤ (m309.1 10) by omega)
                        · skip
                          replace h295 : LxP (m294.1 7) (m294.1 8) (m294.1 9) (m269.1 6) (m294.1 10) := h295
                          rewrite [(show (m269.1 6) = (m.1 6) from ((fr1 Fm269 6 rfl).trans ((fr1 Fm254 6 rfl).trans ((fr1 Fm239 6 rfl).trans ((fr1 Fm219 6 rfl).trans ((fr1 Fm206 6 rfl).trans ((fr1 Fm182 6 rfl).trans (fr1 Fm167 6 rfl))))))))] at h295
                          have hLx := h295
                          clear h296
                          replace h297 : (m269.1 8) ≤ (m294.1 8) := h297
                          clear h298
                          have hf323 : 1 ≤ (m294.1 10) := by omega
                          clear g276 g277 g278 g279 h273 u288 h297
                          exact J96_20 (mO m294 [] []) Tm294 (fr_m (fr_s Fm294 (fr_m (fr_s Fm269 (fr_m (fr_s Fm254 (fr_m (fr_s Fm239 (fr_m (fr_s Fm219 (fr_m (fr_s Fm206 (fr_m (fr_s Fm182 (fr_m (fr_s Fm167 (fr_m fr_0 rfl rfl) rfl rfl) rfl rfl) rfl rfl) rfl rfl) rfl rfl) rfl rfl) rfl rfl) rfl rfl) rfl rfl) rfl rfl) rfl rfl) rfl rfl) rfl rfl) rfl rfl) rfl rfl) rfl rfl) (show ∀ k, (m294.2 14) k + (m294.2 15) k ≤ 4000 by rewrite [(show (m294.2 14) = (m269.2 14) from (fr2 Fm294 14 rfl)), (show (m294.2 15) = (m269.2 15) from (fr2 Fm294 15 rfl))]; first | exact hNM) (show 1 ≤ (m294.1 10) by omega)
                      · skip
                        clear c275
                        clear h272
                        replace h273 : LxP (m269.1 7) (m269.1 8) (m269.1 9) (m254.1 6) (m269.1 10) := h273
                        rewrite [(show (m254.1 6) = (m.1 6) from ((fr1 Fm254 6 rfl).trans ((fr1 Fm239 6 rfl).trans ((fr1 Fm219 6 rfl).trans ((fr1 Fm206 6 rfl).trans ((fr1 Fm182 6 rfl).trans (fr1 Fm167 6 rfl)))))))] at h273
                        have hLx := h273
                        replace h274 : ∀ k, (m269.2 14) k + (m269.2 15) k ≤ 4000 := h274
                        have hNM := h274
                        have hf324 : 1 ≤ (m269.1 10) := by omega
                        clear q223_13 ic222 c228 c229 g259 g260 g261 g262 h255 u264
                        exact J89_40 x270 (mO m269 [] []) (r32 (by omega) (by omega)) Tm269 (fr_m (fr_s Fm269 (fr_m (fr_s Fm254 (fr_m (fr_s Fm239 (fr_m (fr_s Fm219 (fr_m (fr_s Fm206 (fr_m (fr_s Fm182 (fr_m (fr_s Fm167 (fr_m fr_0 rfl rfl) rfl rfl) rfl rfl) rfl rfl) rfl rfl) rfl rfl) rfl rfl) rfl rfl) rfl rfl) rfl rfl) rfl rfl) rfl rfl) rfl rfl) rfl rfl) rfl rfl) (show (-2) ≤ x270 by omega) (show x270 ≤ 15 by omega) (show ∀ k, (m269.2 14) k + (m269.2 15) k ≤ 4000 by first | exact hNM) (show 1 ≤ (m269.1 10) by omega)
                    · skip
                      replace h255 : LxP (m254.1 7) (m254.1 8) (m254.1 9) (m239.1 6) (m254.1 10) := h255
                      rewrite [(show (m239.1 6) = (m.1 6) from ((fr1 Fm239 6 rfl).trans ((fr1 Fm219 6 rfl).trans ((fr1 Fm206 6 rfl).trans ((fr1 Fm182 6 rfl).trans (fr1 Fm167 6 rfl))))))] at h255
                      have hLx := h255
                      clear h256
                      replace h257 : (m239.1 8) ≤ (m254.1 8) := h257
                      clear h258
                      have hf325 : 1 ≤ (m254.1 10) := by omega
                      clear g244 g245 g246 g247 h240 h242 u249 h257
                      exact J80_63 (mO m254 [] []) Tm254 (fr_m (fr_s Fm254 (fr_m (fr_s Fm239 (fr_m (fr_s Fm219 (fr_m (fr_s Fm206 (fr_m (fr_s Fm182 (fr_m (fr_s Fm167 (fr_m fr_0 rfl rfl) rfl rfl) rfl rfl) rfl rfl) rfl rfl) rfl rfl) rfl rfl) rfl rfl) rfl rfl) rfl rfl) rfl rfl) rfl rfl) rfl rfl) (show ∀ k, (m254.2 14) k + (m254.2 15) k ≤ 4000 by rewrite [(show (m254.2 14) = (m219.2 14) from ((fr2 Fm254 14 rfl).trans (fr2 Fm239 14 rfl))), (show (m254.2 15) = (m219.2 15) from ((fr2 Fm254 15 rfl).trans (fr2 Fm239 15 rfl)))]; first | exact hNM) (show 1 ≤ (m254.1 10) by omega)
                  · skip
                    replace h240 : LxP (m239.1 7) (m239.1 8) (m239.1 9) (m219.1 6) (m239.1 10) := h240
                    rewrite [(show (m219.1 6) = (m.1 6) from ((fr1 Fm219 6 rfl).trans ((fr1 Fm206 6 rfl).trans ((fr1 Fm182 6 rfl).trans (fr1 Fm167 6 rfl)))))] at h240
                    have hLx := h240
                    clear h241
                    replace h242 : (m219.1 8) ≤ (m239.1 8) := h242
                    clear h243
                    have hf326 : 1 ≤ (m239.1 10) := by omega
                    clear g211 g212 g213 g214 h207 u216 q223_7 q223_9 ic221 h236
                    exact J74_86 (mO m239 [] []) Tm239 (fr_m (fr_s Fm239 (fr_m (fr_s Fm219 (fr_m (fr_s Fm206 (fr_m (fr_s Fm182 (fr_m (fr_s Fm167 (fr_m fr_0 rfl rfl) rfl rfl) rfl rfl) rfl rfl) rfl rfl) rfl rfl) rfl rfl) rfl rfl) rfl rfl) rfl rfl) rfl rfl) (show ∀ k, (m239.2 14) k + (m239.2 15) k ≤ 4000 by rewrite [(show (m239.2 14) = (m219.2 14) from (fr2 Fm239 14 rfl)), (show (m239.2 15) = (m219.2 15) from (fr2 Fm239 15 rfl))]; first | exact hNM) (show 1 ≤ (m239.1 10) by omega)
                · skip
                  refine T_ld 60 (.ref 189) rfl (fun _ => rfl) ?_
                  refine T_ld 61 (.int (i32 d)) rfl (fun _ => rfl) ?_
                  refine T_call 64 265 [.ref 189, .int (i32 d)] [] rfl (fun _ => rfl) rfl (c_takeCase w (mO m219 [] []) c N D (by omega) Tm219 d (r32 (by omega) (by omega)) (show LxP (m219.1 7) (m219.1 8) (m219.1 9) (m219.1 6) (m219.1 10) by rewrite [(show (m219.1 6) = (m.1 6) from ((fr1 Fm219 6 rfl).trans ((fr1 Fm206 6 rfl).trans ((fr1 Fm182 6 rfl).trans (fr1 Fm167 6 rfl)))))]; first | exact hLx | exact (fun _ => hLx (by omega)) | (intro h9; exfalso; omega)) (show ∀ k, (m219.2 14) k + (m219.2 15) k ≤ 4000 by assumption) (show 0 ≤ d ∧ d ≤ 15 by omega) (fun _ => ⟨(show PN (m219.1 13) (m219.1 19) (m219.1 20) (m219.1 21) (m219.1 22) (m219.1 23) (m219.1 25) (m219.1 26) (m219.2 16) (m219.2 17) by rewrite [(show (m219.1 19) = (m.1 19) from ((fr1 Fm219 19 rfl).trans ((fr1 Fm206 19 rfl).trans ((fr1 Fm182 19 rfl).trans (fr1 Fm167 19 rfl))))), (show (m219.1 20) = (m.1 20) from ((fr1 Fm219 20 rfl).trans ((fr1 Fm206 20 rfl).trans ((fr1 Fm182 20 rfl).trans (fr1 Fm167 20 rfl))))), (show (m219.1 21) = (m.1 21) from ((fr1 Fm219 21 rfl).trans ((fr1 Fm206 21 rfl).trans ((fr1 Fm182 21 rfl).trans (fr1 Fm167 21 rfl))))), (show (m219.1 22) = (m.1 22) from ((fr1 Fm219 22 rfl).trans ((fr1 Fm206 22 rfl).trans ((fr1 Fm182 22 rfl).trans (fr1 Fm167 22 rfl))))), (show (m219.1 25) = (m.1 25) from ((fr1 Fm219 25 rfl).trans ((fr1 Fm206 25 rfl).trans ((fr1 Fm182 25 rfl).trans (fr1 Fm167 25 rfl))))), (show (m219.1 26) = (m.1 26) from ((fr1 Fm219 26 rfl).trans ((fr1 Fm206 26 rfl).trans ((fr1 Fm182 26 rfl).trans (fr1 Fm167 26 rfl)))))]; assumption), (show SOp (m219.2 38) (m219.1 23) (m219.1 24) by rewrite [(show (m219.1 24) = (m.1 24) from ((fr1 Fm219 24 rfl).trans ((fr1 Fm206 24 rfl).trans ((fr1 Fm182 24 rfl).trans (fr1 Fm167 24 rfl)))))]; first | exact pSO | assumption), (show ∀ c, 8 * d ≤ c → c < 8 * d + (m219.2 42) d → (m219.2 45) c < (m219.1 23) by assumption)⟩)) (fun rr327 k328 => ?_)
                  obtain ⟨m329, Tm329, Fm329, h330, h331, h332, c333, rfl⟩ := k328
                  refine ⟨_, _, rfl, ?_⟩
                  refine T_nb (st' := []) rfl ?_
                  have g334 : 0 ≤ m329.1 7 ∧ m329.1 7 ≤ 330 := Tm329.1 7
                  have g335 : 0 ≤ m329.1 8 ∧ m329.1 8 ≤ 4000 := Tm329.1 8
                  have g336 : 0 ≤ m329.1 9 ∧ m329.1 9 ≤ 4000 := Tm329.1 9
                  have g337 : 0 ≤ m329.1 10 ∧ m329.1 10 ≤ 8 := Tm329.1 10
                  have g338 : 0 ≤ m329.1 13 ∧ m329.1 13 ≤ 120 := Tm329.1 13
                  have g339 : 0 ≤ m329.1 23 ∧ m329.1 23 ≤ 16 := Tm329.1 23
                  by_cases hf340 : (m329.1 10) = 0
                  · skip
                    replace h330 : (m219.1 10) = 0 := h330 hf340
                    replace h331 : LxP (m329.1 7) (m329.1 8) (m329.1 9) (m219.1 6) (m329.1 10) := h331
                    rewrite [(show (m219.1 6) = (m.1 6) from ((fr1 Fm219 6 rfl).trans ((fr1 Fm206 6 rfl).trans ((fr1 Fm182 6 rfl).trans (fr1 Fm167 6 rfl)))))] at h331
                    have hLx := h331
                    replace h332 : ∀ k, (m329.2 14) k + (m329.2 15) k ≤ 4000 := h332
                    have hNM := h332
                    obtain ⟨c341, c342, c343, c344, c345, c346, c347⟩ := c333 hf340
                    replace c341 : (m219.1 8) + 1 ≤ (m329.1 8) := c341
                    replace c342 : PN (m329.1 13) (m219.1 19) (m219.1 20) (m219.1 21) (m219.1 22) (m329.1 23) (m219.1 25) (m219.1 26) (m329.2 16) (m329.2 17) := c342
                    rewrite [(show (m219.1 19) = (m.1 19) from ((fr1 Fm219 19 rfl).trans ((fr1 Fm206 19 rfl).trans ((fr1 Fm182 19 rfl).trans (fr1 Fm167 19 rfl))))), (show (m219.1 20) = (m.1 20) from ((fr1 Fm219 20 rfl).trans ((fr1 Fm206 20 rfl).trans ((fr1 Fm182 20 rfl).trans (fr1 Fm167 20 rfl))))), (show (m219.1 21) = (m.1 21) from ((fr1 Fm219 21 rfl).trans ((fr1 Fm206 21 rfl).trans ((fr1 Fm182 21 rfl).trans (fr1 Fm167 21 rfl))))), (show (m219.1 22) = (m.1 22) from ((fr1 Fm219 22 rfl).trans ((fr1 Fm206 22 rfl).trans ((fr1 Fm182 22 rfl).trans (fr1 Fm167 22 rfl))))), (show (m219.1 25) = (m.1 25) from ((fr1 Fm219 25 rfl).trans ((fr1 Fm206 25 rfl).trans ((fr1 Fm182 25 rfl).trans (fr1 Fm167 25 rfl))))), (show (m219.1 26) = (m.1 26) from ((fr1 Fm219 26 rfl).trans ((fr1 Fm206 26 rfl).trans ((fr1 Fm182 26 rfl).trans (fr1 Fm167 26 rfl)))))] at c342
                    have pPN := c342
                    replace c343 : SOp (m329.2 38) (m329.1 23) (m219.1 24) := c343
                    rewrite [(show (m219.1 24) = (m.1 24) from ((fr1 Fm219 24 rfl).trans ((fr1 Fm206 24 rfl).trans ((fr1 Fm182 24 rfl).trans (fr1 Fm167 24 rfl)))))] at c343
                    have pSO := c343
                    replace c344 : ∀ c, 8 * d ≤ c → c < 8 * d + (m329.2 42) d → (m329.2 45) c < (m329.1 23) := c344
                    have hCT := c344
                    replace c345 : (m219.1 23) ≤ (m329.1 23) := c345
                    replace c346 : agr (m219.2 42) (m329.2 42) d := c346
                    have hB1 := c346
                    replace c347 : agr (m219.2 45) (m329.2 45) (8 * d) := c347
                    have hB5 := c347
                    clear c333
                    have u348 : (m.1 8) + 1 ≤ (m329.1 8) := by omega
                    have u349 : (m.1 28) ≤ (m182.1 28) := by omega
                    have u350 : (m.1 23) ≤ (m329.1 23) := by omega
                    clear g211 g212 g213 g214 h207 u216 q223_7 q223_9 q223_13 ic221 ic222 c228 c229 c230 c231 c232 h236 c346 c347
                    refine T_goto 44 rfl (fun _ => rfl) ?_
                    exact ih226 (mO m329 [] []) Tm329 (fr_m (fr_s Fm329 (fr_m (fr_s Fm219 (fr_m fr_0 rfl rfl) rfl rfl) rfl rfl) rfl rfl) rfl rfl) (show LxP (m329.1 7) (m329.1 8) (m329.1 9) (m.1 6) (m329.1 10) by exact hLx) (show ∀ k, (m329.2 14) k + (m329.2 15) k ≤ 4000 by exact hNM) (fun _ => ⟨(show PN (m329.1 13) (m.1 19) (m.1 20) (m.1 21) (m.1 22) (m329.1 23) (m.1 25) (m.1 26) (m329.2 16) (m329.2 17) by exact pPN), (show SOp (m329.2 38) (m329.1 23) (m.1 24) by exact pSO), (show ∀ c, 8 * d ≤ c → c < 8 * d + (m329.2 42) d → (m329.2 45) c < (m329.1 23) by exact hCT), (show agr (m.2 42) (m329.2 42) d by first | exact agr_t hB1c hB1 (Int.le_refl _) | exact hB1), (show agr (m.2 45) (m329.2 45) (8 * d) by first | exact agr_t hB5c hB5 (Int.le_refl _) | exact hB5), (show (m.1 23) ≤ (m329.1 23) by omega), (show (m.1 8) + 1 ≤ (m329.1 8) by omega)⟩) (show 1000000 * (8 - (m329.1 10)) + (4000 - (m329.1 8)) < (n225 : Int) by omega)
                  · skip
                    clear c333
                    clear h330
                    replace h331 : LxP (m329.1 7) (m329.1 8) (m329.1 9) (m219.1 6) (m329.1 10) := h331
                    rewrite [(show (m219.1 6) = (m.1 6) from ((fr1 Fm219 6 rfl).trans ((fr1 Fm206 6 rfl).trans ((fr1 Fm182 6 rfl).trans (fr1 Fm167 6 rfl)))))] at h331
                    have hLx := h331
                    replace h332 : ∀ k, (m329.2 14) k + (m329.2 15) k ≤ 4000 := h332
                    have hNM := h332
                    have hf351 : 1 ≤ (m329.1 10) := by omega
                    clear g211 g212 g213 g214 h207 u216 q223_7 q223_9 q223_13 ic221 ic222 c228 c229 c230 c231 c232 h236
                    exact J64_105 (mO m329 [] []) Tm329 (fr_m (fr_s Fm329 (fr_m (fr_s Fm219 (fr_m (fr_s Fm206 (fr_m (fr_s Fm182 (fr_m (fr_s Fm167 (fr_m fr_0 rfl rfl) rfl rfl) rfl rfl) rfl rfl) rfl rfl) rfl rfl) rfl rfl) rfl rfl) rfl rfl) rfl rfl) rfl rfl) (show ∀ k, (m329.2 14) k + (m329.2 15) k ≤ 4000 by first | exact hNM) (show 1 ≤ (m329.1 10) by omega)
              · skip
                clear c224
                have hf352 : 1 ≤ (m219.1 10) := by omega
                refine T_gf 48 (.int (i32 (m219.1 10))) rfl rfl rfl rfl rfl rfl ?_
                refine T_if 67 51 rfl rfl rfl (r32 (by omega) (by omega)) (fun (h353 : (m219.1 10) ≠ 0) => ?_) (fun (h353 : ¬ ((m219.1 10) ≠ 0)) => by exfalso; omega)
                refine T_ld 68 (.ref 189) rfl (fun _ => rfl) ?_
                refine T_ld 71 (.int (i32 308)) rfl (fun _ => rfl) ?_
                refine T_call 74 232 [.ref 189, .int (i32 308)] [] rfl (fun _ => rfl) rfl (d_need w (mO m219 [] []) c N D (by omega) Tm219 308 ⟨by decide, by decide⟩ (show 1 ≤ (308 : Int) by omega) (show LxP (m219.1 7) (m219.1 8) (m219.1 9) (m219.1 6) (m219.1 10) by rewrite [(show (m219.1 6) = (m.1 6) from ((fr1 Fm219 6 rfl).trans ((fr1 Fm206 6 rfl).trans ((fr1 Fm182 6 rfl).trans (fr1 Fm167 6 rfl)))))]; first | exact hLx | (intro h9; exfalso; omega) | (intro h9; have h8 := hLx (by omega); omega))) (fun rr354 k355 => ?_)
                obtain ⟨m356, Tm356, Fm356, h357, h358, h359, h360, rfl⟩ := k355
                refine ⟨_, _, rfl, ?_⟩
                refine T_nb (st' := []) rfl ?_
                have g361 : 0 ≤ m356.1 7 ∧ m356.1 7 ≤ 330 := Tm356.1 7
                have g362 : 0 ≤ m356.1 8 ∧ m356.1 8 ≤ 4000 := Tm356.1 8
                have g363 : 0 ≤ m356.1 9 ∧ m356.1 9 ≤ 4000 := Tm356.1 9
                have g364 : 0 ≤ m356.1 10 ∧ m356.1 10 ≤ 8 := Tm356.1 10
                replace h357 : LxP (m356.1 7) (m356.1 8) (m356.1 9) (m219.1 6) (m356.1 10) := h357
                rewrite [(show (m219.1 6) = (m.1 6) from ((fr1 Fm219 6 rfl).trans ((fr1 Fm206 6 rfl).trans ((fr1 Fm182 6 rfl).trans (fr1 Fm167 6 rfl)))))] at h357
                replace h358 : (m356.1 10) = 0 → (m219.1 10) = 0 ∧ (m219.1 7) = (308 : Int) := h358
                replace h359 : (m219.1 8) ≤ (m356.1 8) := h359
                replace h360 : (m356.1 10) = 0 → (m219.1 8) + (m219.1 9) ≤ (m356.1 8) := h360
                have hf365 : 1 ≤ (m356.1 10) := by omega
                clear h358
                clear h360
                have hLx := h357
                clear g211 g212 g213 g214 h207 u216 q223_7 q223_9 ic221
                exact J74_86 (mO m356 [] []) Tm356 (fr_m (fr_s Fm356 (fr_m (fr_s Fm219 (fr_m (fr_s Fm206 (fr_m (fr_s Fm182 (fr_m (fr_s Fm167 (fr_m fr_0 rfl rfl) rfl rfl) rfl rfl) rfl rfl) rfl rfl) rfl rfl) rfl rfl) rfl rfl) rfl rfl) rfl rfl) rfl rfl) (show ∀ k, (m356.2 14) k + (m356.2 15) k ≤ 4000 by rewrite [(show (m356.2 14) = (m219.2 14) from (fr2 Fm356 14 rfl)), (show (m356.2 15) = (m219.2 15) from (fr2 Fm356 15 rfl))]; first | exact hNM) (show 1 ≤ (m356.1 10) by omega)
          exact L44_220 ((1000000 * (8 - (m206.1 10)) + (4000 - (m206.1 8)) : Int) + 1).toNat (mO m206 [] []) Tm206 (fr_m fr_0 rfl rfl) (show LxP (m206.1 7) (m206.1 8) (m206.1 9) (m.1 6) (m206.1 10) by exact hLx) (show ∀ k, (m206.2 14) k + (m206.2 15) k ≤ 4000 by rewrite [(show (m206.2 14) = (m.2 14) from ((fr2 Fm206 14 rfl).trans ((fr2 Fm182 14 rfl).trans (fr2 Fm167 14 rfl)))), (show (m206.2 15) = (m.2 15) from ((fr2 Fm206 15 rfl).trans ((fr2 Fm182 15 rfl).trans (fr2 Fm167 15 rfl))))]; exact hNM) (fun _ => ⟨(show PN (m206.1 13) (m.1 19) (m.1 20) (m.1 21) (m.1 22) (m206.1 23) (m.1 25) (m.1 26) (m206.2 16) (m206.2 17) by rewrite [(show (m206.1 13) = (m.1 13) from ((fr1 Fm206 13 rfl).trans ((fr1 Fm182 13 rfl).trans (fr1 Fm167 13 rfl)))), (show (m206.1 23) = (m.1 23) from ((fr1 Fm206 23 rfl).trans ((fr1 Fm182 23 rfl).trans (fr1 Fm167 23 rfl)))), (show (m206.2 16) = (m.2 16) from ((fr2 Fm206 16 rfl).trans ((fr2 Fm182 16 rfl).trans (fr2 Fm167 16 rfl)))), (show (m206.2 17) = (m.2 17) from ((fr2 Fm206 17 rfl).trans ((fr2 Fm182 17 rfl).trans (fr2 Fm167 17 rfl))))]; exact pPN), (show SOp (m206.2 38) (m206.1 23) (m.1 24) by rewrite [(show (m206.2 38) = (m.2 38) from ((fr2 Fm206 38 rfl).trans ((fr2 Fm182 38 rfl).trans (fr2 Fm167 38 rfl)))), (show (m206.1 23) = (m.1 23) from ((fr1 Fm206 23 rfl).trans ((fr1 Fm182 23 rfl).trans (fr1 Fm167 23 rfl))))]; exact pSO), (show ∀ c, 8 * d ≤ c → c < 8 * d + (m206.2 42) d → (m206.2 45) c < (m206.1 23) by rewrite [(show (m206.2 42) = (m.2 42) from ((fr2 Fm206 42 rfl).trans ((fr2 Fm182 42 rfl).trans (fr2 Fm167 42 rfl)))), (show (m206.2 45) = (m.2 45) from ((fr2 Fm206 45 rfl).trans ((fr2 Fm182 45 rfl).trans (fr2 Fm167 45 rfl)))), (show (m206.1 23) = (m.1 23) from ((fr1 Fm206 23 rfl).trans ((fr1 Fm182 23 rfl).trans (fr1 Fm167 23 rfl))))]; exact hCT), (show agr (m.2 42) (m206.2 42) d by rewrite [(show (m206.2 42) = (m.2 42) from ((fr2 Fm206 42 rfl).trans ((fr2 Fm182 42 rfl).trans (fr2 Fm167 42 rfl))))]; first | exact agr_t hB1c hB1 (Int.le_refl _) | exact hB1), (show agr (m.2 45) (m206.2 45) (8 * d) by rewrite [(show (m206.2 45) = (m.2 45) from ((fr2 Fm206 45 rfl).trans ((fr2 Fm182 45 rfl).trans (fr2 Fm167 45 rfl))))]; first | exact agr_t hB5c hB5 (Int.le_refl _) | exact hB5), (show (m.1 23) ≤ (m206.1 23) by rewrite [(show (m206.1 23) = (m.1 23) from ((fr1 Fm206 23 rfl).trans ((fr1 Fm182 23 rfl).trans (fr1 Fm167 23 rfl))))]; omega), (show (m.1 8) + 1 ≤ (m206.1 8) by omega)⟩) (show 1000000 * (8 - (m206.1 10)) + (4000 - (m206.1 8)) < ((((1000000 * (8 - (m206.1 10)) + (4000 - (m206.1 8)) : Int) + 1).toNat : Nat) : Int) by omega)
        · skip
          replace h207 : LxP (m206.1 7) (m206.1 8) (m206.1 9) (m182.1 6) (m206.1 10) := h207
          rewrite [(show (m182.1 6) = (m.1 6) from ((fr1 Fm182 6 rfl).trans (fr1 Fm167 6 rfl)))] at h207
          have hLx := h207
          clear h208
          replace h209 : (m182.1 8) ≤ (m206.1 8) := h209
          clear h210
          have hf366 : 1 ≤ (m206.1 10) := by omega
          clear g186 g187 g188 g189 h184 u199 h209
          exact J44_125 (mO m206 [] []) Tm206 (fr_m (fr_s Fm206 (fr_m (fr_s Fm182 (fr_m (fr_s Fm167 (fr_m fr_0 rfl rfl) rfl rfl) rfl rfl) rfl rfl) rfl rfl) rfl rfl) rfl rfl) (show ∀ k, (m.2 14) k + (m.2 15) k ≤ 4000 by first | exact hNM) (show 1 ≤ (m206.1 10) by omega)
      · skip
        clear c185
        clear h183
        replace h184 : LxP (m182.1 7) (m182.1 8) (m182.1 9) (m167.1 6) (m182.1 10) := h184
        rewrite [(show (m167.1 6) = (m.1 6) from (fr1 Fm167 6 rfl))] at h184
        have hLx := h184
        have hf367 : 1 ≤ (m182.1 10) := by omega
        clear g172 g173 g174 g175 h168 h170 h171 u177
        exact J18_145 (mO m182 [] []) Tm182 (fr_m (fr_s Fm182 (fr_m (fr_s Fm167 (fr_m fr_0 rfl rfl) rfl rfl) rfl rfl) rfl rfl) rfl rfl) (show ∀ k, (m.2 14) k + (m.2 15) k ≤ 4000 by first | exact hNM) (show 1 ≤ (m182.1 10) by omega)
    · skip
      replace h168 : LxP (m167.1 7) (m167.1 8) (m167.1 9) (m.1 6) (m167.1 10) := h168
      have hLx := h168
      clear h169
      replace h170 : (m.1 8) ≤ (m167.1 8) := h170
      clear h171
      have hf368 : 1 ≤ (m167.1 10) := by omega
      refine T_gf 8 (.ref 257) rfl rfl rfl rfl rfl rfl ?_
      refine T_ld 9 (.int (i32 d)) rfl (fun _ => rfl) ?_
      refine T_gf 13 (.int (i32 (m.1 28))) rfl rfl rfl rfl (mfv_c (F := fun x => .int (i32 x)) rfl (show (m167.1 28) = (m.1 28) from (fr1 Fm167 28 rfl))) rfl ?_
      have G369 : ∀ j, 0 ≤ (upI (m.2 95) d (m.1 28)) j ∧ (upI (m.2 95) d (m.1 28)) j ≤ 800 := upI_rg (hT.2.1 95) ⟨by omega, by omega⟩
      refine T_iast (a' := [(95, upI (m.2 95) d (m.1 28))]) 14 95 (m.2 95) rfl rfl rfl (by omega) (show d < (16 : Int) by omega) (show (m167.2 95) = (m.2 95) from (fr2 Fm167 95 rfl)) rfl ?_
      refine T_ld 15 (.ref 189) rfl (fun _ => rfl) ?_
      refine T_call 18 244 [.ref 189] [] rfl (fun _ => rfl) rfl (c_readExpr w (mO m167 [] [(95, upI (m.2 95) d (m.1 28))]) c N D (by omega) (Ty_mO Tm167 rfl rfl trivial ⟨G369, trivial⟩) (show LxP (m167.1 7) (m167.1 8) (m167.1 9) (m167.1 6) (m167.1 10) by rewrite [(show (m167.1 6) = (m.1 6) from (fr1 Fm167 6 rfl))]; first | exact hLx | exact (fun _ => hLx (by omega)) | (intro h9; exfalso; omega)) (show ∀ k, (m167.2 14) k + (m167.2 15) k ≤ 4000 by rewrite [(show (m167.2 14) = (m.2 14) from (fr2 Fm167 14 rfl)), (show (m167.2 15) = (m.2 15) from (fr2 Fm167 15 rfl))]; assumption) (show ∀ k, (m167.2 31) k + (m167.2 32) k ≤ 4000 by rewrite [(show (m167.2 31) = (m.2 31) from (fr2 Fm167 31 rfl)), (show (m167.2 32) = (m.2 32) from (fr2 Fm167 32 rfl))]; assumption) (show ∀ k, (m167.2 47) k + (m167.2 48) k ≤ 4000 by rewrite [(show (m167.2 47) = (m.2 47) from (fr2 Fm167 47 rfl)), (show (m167.2 48) = (m.2 48) from (fr2 Fm167 48 rfl))]; assumption) (fun (h : (m167.1 10) = 0) => absurd h (by omega))) (fun rr370 k371 => ?_)
      obtain ⟨m372, Tm372, Fm372, h373, h374, c375, rfl⟩ := k371
      refine ⟨_, _, rfl, ?_⟩
      refine T_nb (st' := []) rfl ?_
      have g376 : 0 ≤ m372.1 7 ∧ m372.1 7 ≤ 330 := Tm372.1 7
      have g377 : 0 ≤ m372.1 8 ∧ m372.1 8 ≤ 4000 := Tm372.1 8
      have g378 : 0 ≤ m372.1 9 ∧ m372.1 9 ≤ 4000 := Tm372.1 9
      have g379 : 0 ≤ m372.1 10 ∧ m372.1 10 ≤ 8 := Tm372.1 10
      have g380 : 0 ≤ m372.1 28 ∧ m372.1 28 ≤ 800 := Tm372.1 28
      have g381 : 0 ≤ m372.1 69 ∧ m372.1 69 ≤ 1024 := Tm372.1 69
      replace h373 : (m372.1 10) = 0 → (m167.1 10) = 0 := h373
      replace h374 : LxP (m372.1 7) (m372.1 8) (m372.1 9) (m167.1 6) (m372.1 10) := h374
      rewrite [(show (m167.1 6) = (m.1 6) from (fr1 Fm167 6 rfl))] at h374
      have hf382 : 1 ≤ (m372.1 10) := by omega
      clear c375
      clear h373
      have hLx := h374
      clear g172 g173 g174 g175 h168 h170 hf368
      exact J18_145 (mO m372 [] []) Tm372 (fr_m (fr_s Fm372 (fr_m (fr_s Fm167 (fr_m fr_0 rfl rfl) rfl rfl) rfl rfl) rfl rfl) rfl rfl) (show ∀ k, (m.2 14) k + (m.2 15) k ≤ 4000 by first | exact hNM) (show 1 ≤ (m372.1 10) by omega)
  · skip
    clear hC
    refine T_ld 1 (.ref 189) rfl (fun _ => rfl) ?_
    refine T_call 4 212 [.ref 189] [] rfl (fun _ => rfl) rfl (d_next w (mO m [] []) c N D (by omega) hT (show (m.1 10) = 0 → (m.1 8) + (m.1 9) ≤ (m.1 6) by first | omega | (intro h9; have h8 := hLx h9; omega))) (fun rr383 k384 => ?_)
    obtain ⟨m385, Tm385, Fm385, h386, h387, h388, h389, rfl⟩ := k384
    refine ⟨_, _, rfl, ?_⟩
    refine T_nb (st' := []) rfl ?_
    have g390 : 0 ≤ m385.1 7 ∧ m385.1 7 ≤ 330 := Tm385.1 7
    have g391 : 0 ≤ m385.1 8 ∧ m385.1 8 ≤ 4000 := Tm385.1 8
    have g392 : 0 ≤ m385.1 9 ∧ m385.1 9 ≤ 4000 := Tm385.1 9
    have g393 : 0 ≤ m385.1 10 ∧ m385.1 10 ≤ 8 := Tm385.1 10
    replace h386 : LxP (m385.1 7) (m385.1 8) (m385.1 9) (m.1 6) (m385.1 10) := h386
    replace h387 : (m385.1 10) = 0 → (m.1 10) = 0 := h387
    replace h388 : (m.1 8) ≤ (m385.1 8) := h388
    replace h389 : (m385.1 10) = 0 → (m.1 8) + (m.1 9) ≤ (m385.1 8) := h389
    have hf394 : 1 ≤ (m385.1 10) := by omega
    clear h387
    clear h389
    have hLx := h386
    refine T_gf 8 (.ref 257) rfl rfl rfl rfl rfl rfl ?_
    refine T_ld 9 (.int (i32 d)) rfl (fun _ => rfl) ?_
    refine T_gf 13 (.int (i32 (m.1 28))) rfl rfl rfl rfl (mfv_c (F := fun x => .int (i32 x)) rfl (show (m385.1 28) = (m.1 28) from (fr1 Fm385 28 rfl))) rfl ?_
    have G395 : ∀ j, 0 ≤ (upI (m.2 95) d (m.1 28)) j ∧ (upI (m.2 95) d (m.1 28)) j ≤ 800 := upI_rg (hT.2.1 95) ⟨by omega, by omega⟩
    refine T_iast (a' := [(95, upI (m.2 95) d (m.1 28))]) 14 95 (m.2 95) rfl rfl rfl (by omega) (show d < (16 : Int) by omega) (show (m385.2 95) = (m.2 95) from (fr2 Fm385 95 rfl)) rfl ?_
    refine T_ld 15 (.ref 189) rfl (fun _ => rfl) ?_
    refine T_call 18 244 [.ref 189] [] rfl (fun _ => rfl) rfl (c_readExpr w (mO m385 [] [(95, upI (m.2 95) d (m.1 28))]) c N D (by omega) (Ty_mO Tm385 rfl rfl trivial ⟨G395, trivial⟩) (show LxP (m385.1 7) (m385.1 8) (m385.1 9) (m385.1 6) (m385.1 10) by rewrite [(show (m385.1 6) = (m.1 6) from (fr1 Fm385 6 rfl))]; first | exact hLx | exact (fun _ => hLx (by omega)) | (intro h9; exfalso; omega)) (show ∀ k, (m385.2 14) k + (m385.2 15) k ≤ 4000 by rewrite [(show (m385.2 14) = (m.2 14) from (fr2 Fm385 14 rfl)), (show (m385.2 15) = (m.2 15) from (fr2 Fm385 15 rfl))]; assumption) (show ∀ k, (m385.2 31) k + (m385.2 32) k ≤ 4000 by rewrite [(show (m385.2 31) = (m.2 31) from (fr2 Fm385 31 rfl)), (show (m385.2 32) = (m.2 32) from (fr2 Fm385 32 rfl))]; assumption) (show ∀ k, (m385.2 47) k + (m385.2 48) k ≤ 4000 by rewrite [(show (m385.2 47) = (m.2 47) from (fr2 Fm385 47 rfl)), (show (m385.2 48) = (m.2 48) from (fr2 Fm385 48 rfl))]; assumption) (fun (h : (m385.1 10) = 0) => absurd h (by omega))) (fun rr396 k397 => ?_)
    obtain ⟨m398, Tm398, Fm398, h399, h400, c401, rfl⟩ := k397
    refine ⟨_, _, rfl, ?_⟩
    refine T_nb (st' := []) rfl ?_
    have g402 : 0 ≤ m398.1 7 ∧ m398.1 7 ≤ 330 := Tm398.1 7
    have g403 : 0 ≤ m398.1 8 ∧ m398.1 8 ≤ 4000 := Tm398.1 8
    have g404 : 0 ≤ m398.1 9 ∧ m398.1 9 ≤ 4000 := Tm398.1 9
    have g405 : 0 ≤ m398.1 10 ∧ m398.1 10 ≤ 8 := Tm398.1 10
    have g406 : 0 ≤ m398.1 28 ∧ m398.1 28 ≤ 800 := Tm398.1 28
    have g407 : 0 ≤ m398.1 69 ∧ m398.1 69 ≤ 1024 := Tm398.1 69
    replace h399 : (m398.1 10) = 0 → (m385.1 10) = 0 := h399
    replace h400 : LxP (m398.1 7) (m398.1 8) (m398.1 9) (m385.1 6) (m398.1 10) := h400
    rewrite [(show (m385.1 6) = (m.1 6) from (fr1 Fm385 6 rfl))] at h400
    have hf408 : 1 ≤ (m398.1 10) := by omega
    clear c401
    clear h399
    have hLx := h400
    clear g390 g391 g392 g393 hf394 h386 h388
    refine T_gf 22 (.ref 258) rfl rfl rfl rfl rfl rfl ?_
    refine T_ld 23 (.int (i32 d)) rfl (fun _ => rfl) ?_
    refine T_gf 27 (.int (i32 (m398.1 28))) rfl rfl rfl rfl rfl rfl ?_
    have G409 : ∀ j, 0 ≤ (upI (m.2 96) d (m398.1 28)) j ∧ (upI (m.2 96) d (m398.1 28)) j ≤ 800 := upI_rg (hT.2.1 96) ⟨by omega, by omega⟩
    refine T_iast (a' := [(96, upI (m.2 96) d (m398.1 28))]) 28 96 (m.2 96) rfl rfl rfl (by omega) (show d < (16 : Int) by omega) (show (m398.2 96) = (m.2 96) from ((fr2 Fm398 96 rfl).trans (fr2 Fm385 96 rfl))) rfl ?_
    refine T_gf 32 (.ref 213) rfl rfl rfl rfl rfl rfl ?_
    refine T_ld 33 (.int (i32 d)) rfl (fun _ => rfl) ?_
    refine T_gf 37 (.int (i32 (m398.1 69))) rfl rfl rfl rfl rfl rfl ?_
    have G410 : ∀ j, 0 ≤ (upI (m.2 43) d (m398.1 69)) j ∧ (upI (m.2 43) d (m398.1 69)) j ≤ 1024 := upI_rg (hT.2.1 43) ⟨by omega, by omega⟩
    refine T_iast (a' := [(43, upI (m.2 43) d (m398.1 69)), (96, upI (m.2 96) d (m398.1 28))]) 38 43 (m.2 43) rfl rfl rfl (by omega) (show d < (16 : Int) by omega) (show (m398.2 43) = (m.2 43) from ((fr2 Fm398 43 rfl).trans (fr2 Fm385 43 rfl))) rfl ?_
    refine T_ld 39 (.ref 189) rfl (fun _ => rfl) ?_
    refine T_ld 41 (.int (i32 123)) rfl (fun _ => rfl) ?_
    refine T_call 44 232 [.ref 189, .int (i32 123)] [] rfl (fun _ => rfl) rfl (d_need w (mO m398 [] [(43, upI (m.2 43) d (m398.1 69)), (96, upI (m.2 96) d (m398.1 28))]) c N D (by omega) (Ty_mO Tm398 rfl rfl trivial ⟨G410, G409, trivial⟩) 123 ⟨by decide, by decide⟩ (show 1 ≤ (123 : Int) by omega) (show LxP (m398.1 7) (m398.1 8) (m398.1 9) (m398.1 6) (m398.1 10) by rewrite [(show (m398.1 6) = (m.1 6) from ((fr1 Fm398 6 rfl).trans (fr1 Fm385 6 rfl)))]; first | exact hLx | (intro h9; exfalso; omega) | (intro h9; have h8 := hLx (by omega); omega))) (fun rr411 k412 => ?_)
    obtain ⟨m413, Tm413, Fm413, h414, h415, h416, h417, rfl⟩ := k412
    refine ⟨_, _, rfl, ?_⟩
    refine T_nb (st' := []) rfl ?_
    have g418 : 0 ≤ m413.1 7 ∧ m413.1 7 ≤ 330 := Tm413.1 7
    have g419 : 0 ≤ m413.1 8 ∧ m413.1 8 ≤ 4000 := Tm413.1 8
    have g420 : 0 ≤ m413.1 9 ∧ m413.1 9 ≤ 4000 := Tm413.1 9
    have g421 : 0 ≤ m413.1 10 ∧ m413.1 10 ≤ 8 := Tm413.1 10
    replace h414 : LxP (m413.1 7) (m413.1 8) (m413.1 9) (m398.1 6) (m413.1 10) := h414
    rewrite [(show (m398.1 6) = (m.1 6) from ((fr1 Fm398 6 rfl).trans (fr1 Fm385 6 rfl)))] at h414
    replace h415 : (m413.1 10) = 0 → (m398.1 10) = 0 ∧ (m398.1 7) = (123 : Int) := h415
    replace h416 : (m398.1 8) ≤ (m413.1 8) := h416
    replace h417 : (m413.1 10) = 0 → (m398.1 8) + (m398.1 9) ≤ (m413.1 8) := h417
    have hf422 : 1 ≤ (m413.1 10) := by omega
    clear h415
    clear h417
    have hLx := h414
    clear g402 g403 g404 g405 hf408 h400 h416
    refine T_gf 48 (.int (i32 (m413.1 10))) rfl rfl rfl rfl rfl rfl ?_
    refine T_if 67 51 rfl rfl rfl (r32 (by omega) (by omega)) (fun (h423 : (m413.1 10) ≠ 0) => ?_) (fun (h423 : ¬ ((m413.1 10) ≠ 0)) => by exfalso; omega)
    refine T_ld 68 (.ref 189) rfl (fun _ => rfl) ?_
    refine T_ld 71 (.int (i32 308)) rfl (fun _ => rfl) ?_
    refine T_call 74 232 [.ref 189, .int (i32 308)] [] rfl (fun _ => rfl) rfl (d_need w (mO m413 [] []) c N D (by omega) Tm413 308 ⟨by decide, by decide⟩ (show 1 ≤ (308 : Int) by omega) (show LxP (m413.1 7) (m413.1 8) (m413.1 9) (m413.1 6) (m413.1 10) by rewrite [(show (m413.1 6) = (m.1 6) from ((fr1 Fm413 6 rfl).trans ((fr1 Fm398 6 rfl).trans (fr1 Fm385 6 rfl))))]; first | exact hLx | (intro h9; exfalso; omega) | (intro h9; have h8 := hLx (by omega); omega))) (fun rr424 k425 => ?_)
    obtain ⟨m426, Tm426, Fm426, h427, h428, h429, h430, rfl⟩ := k425
    refine ⟨_, _, rfl, ?_⟩
    refine T_nb (st' := []) rfl ?_
    have g431 : 0 ≤ m426.1 7 ∧ m426.1 7 ≤ 330 := Tm426.1 7
    have g432 : 0 ≤ m426.1 8 ∧ m426.1 8 ≤ 4000 := Tm426.1 8
    have g433 : 0 ≤ m426.1 9 ∧ m426.1 9 ≤ 4000 := Tm426.1 9
    have g434 : 0 ≤ m426.1 10 ∧ m426.1 10 ≤ 8 := Tm426.1 10
    replace h427 : LxP (m426.1 7) (m426.1 8) (m426.1 9) (m413.1 6) (m426.1 10) := h427
    rewrite [(show (m413.1 6) = (m.1 6) from ((fr1 Fm413 6 rfl).trans ((fr1 Fm398 6 rfl).trans (fr1 Fm385 6 rfl))))] at h427
    replace h428 : (m426.1 10) = 0 → (m413.1 10) = 0 ∧ (m413.1 7) = (308 : Int) := h428
    replace h429 : (m413.1 8) ≤ (m426.1 8) := h429
    replace h430 : (m426.1 10) = 0 → (m413.1 8) + (m413.1 9) ≤ (m426.1 8) := h430
    have hf435 : 1 ≤ (m426.1 10) := by omega
    clear h428
    clear h430
    have hLx := h427
    clear g418 g419 g420 g421 hf422 h414 h423 h429
    refine T_ld 75 (.ref 189) rfl (fun _ => rfl) ?_
    refine T_ld 77 (.int (i32 58)) rfl (fun _ => rfl) ?_
    refine T_call 80 232 [.ref 189, .int (i32 58)] [] rfl (fun _ => rfl) rfl (d_need w (mO m426 [] []) c N D (by omega) Tm426 58 ⟨by decide, by decide⟩ (show 1 ≤ (58 : Int) by omega) (show LxP (m426.1 7) (m426.1 8) (m426.1 9) (m426.1 6) (m426.1 10) by rewrite [(show (m426.1 6) = (m.1 6) from ((fr1 Fm426 6 rfl).trans ((fr1 Fm413 6 rfl).trans ((fr1 Fm398 6 rfl).trans (fr1 Fm385 6 rfl)))))]; first | exact hLx | (intro h9; exfalso; omega) | (intro h9; have h8 := hLx (by omega); omega))) (fun rr436 k437 => ?_)
    obtain ⟨m438, Tm438, Fm438, h439, h440, h441, h442, rfl⟩ := k437
    refine ⟨_, _, rfl, ?_⟩
    refine T_nb (st' := []) rfl ?_
    have g443 : 0 ≤ m438.1 7 ∧ m438.1 7 ≤ 330 := Tm438.1 7
    have g444 : 0 ≤ m438.1 8 ∧ m438.1 8 ≤ 4000 := Tm438.1 8
    have g445 : 0 ≤ m438.1 9 ∧ m438.1 9 ≤ 4000 := Tm438.1 9
    have g446 : 0 ≤ m438.1 10 ∧ m438.1 10 ≤ 8 := Tm438.1 10
    replace h439 : LxP (m438.1 7) (m438.1 8) (m438.1 9) (m426.1 6) (m438.1 10) := h439
    rewrite [(show (m426.1 6) = (m.1 6) from ((fr1 Fm426 6 rfl).trans ((fr1 Fm413 6 rfl).trans ((fr1 Fm398 6 rfl).trans (fr1 Fm385 6 rfl)))))] at h439
    replace h440 : (m438.1 10) = 0 → (m426.1 10) = 0 ∧ (m426.1 7) = (58 : Int) := h440
    replace h441 : (m426.1 8) ≤ (m438.1 8) := h441
    replace h442 : (m438.1 10) = 0 → (m426.1 8) + (m426.1 9) ≤ (m438.1 8) := h442
    have hf447 : 1 ≤ (m438.1 10) := by omega
    clear h440
    clear h442
    have hLx := h439
    clear g431 g432 g433 g434 hf435 h427 h441
    refine T_gf 84 (.ref 214) rfl rfl rfl rfl rfl rfl ?_
    refine T_ld 85 (.int (i32 d)) rfl (fun _ => rfl) ?_
    refine T_ld 86 (.ref 189) rfl (fun _ => rfl) ?_
    refine T_call 89 242 [.ref 189] [.int (i32 d), .ref 214] rfl (fun _ => rfl) rfl (c_stateHere w (mO m438 [] []) c N D (by omega) Tm438 (show LxP (m438.1 7) (m438.1 8) (m438.1 9) (m438.1 6) (m438.1 10) by rewrite [(show (m438.1 6) = (m.1 6) from ((fr1 Fm438 6 rfl).trans ((fr1 Fm426 6 rfl).trans ((fr1 Fm413 6 rfl).trans ((fr1 Fm398 6 rfl).trans (fr1 Fm385 6 rfl))))))]; first | exact hLx | exact (fun _ => hLx (by omega)) | (intro h9; exfalso; omega)) (show ∀ k, (m438.2 14) k + (m438.2 15) k ≤ 4000 by rewrite [(show (m438.2 14) = (m.2 14) from ((fr2 Fm438 14 rfl).trans ((fr2 Fm426 14 rfl).trans ((fr2 Fm413 14 rfl).trans ((fr2 Fm398 14 rfl).trans (fr2 Fm385 14 rfl)))))), (show (m438.2 15) = (m.2 15) from ((fr2 Fm438 15 rfl).trans ((fr2 Fm426 15 rfl).trans ((fr2 Fm413 15 rfl).trans ((fr2 Fm398 15 rfl).trans (fr2 Fm385 15 rfl))))))]; assumption) (fun (h : (m438.1 10) = 0) => absurd h (by omega))) (fun rr448 k449 => ?_)
    obtain ⟨m450, x451, Tm450, Fm450, g452, h453, h454, h455, c456, rfl⟩ := k449
    refine ⟨_, _, rfl, ?_⟩
    refine T_nb (st' := [.int (i32 x451), .int (i32 d), .ref 214]) rfl ?_
    obtain ⟨g452a, g452b⟩ := g452
    have g457 : 0 ≤ m450.1 7 ∧ m450.1 7 ≤ 330 := Tm450.1 7
    have g458 : 0 ≤ m450.1 8 ∧ m450.1 8 ≤ 4000 := Tm450.1 8
    have g459 : 0 ≤ m450.1 9 ∧ m450.1 9 ≤ 4000 := Tm450.1 9
    have g460 : 0 ≤ m450.1 10 ∧ m450.1 10 ≤ 8 := Tm450.1 10
    have g461 : 0 ≤ m450.1 13 ∧ m450.1 13 ≤ 120 := Tm450.1 13
    have g462 : 0 ≤ m450.1 23 ∧ m450.1 23 ≤ 16 := Tm450.1 23
    replace h453 : (m450.1 10) = 0 → (m438.1 10) = 0 := h453
    replace h454 : LxP (m450.1 7) (m450.1 8) (m450.1 9) (m438.1 6) (m450.1 10) := h454
    rewrite [(show (m438.1 6) = (m.1 6) from ((fr1 Fm438 6 rfl).trans ((fr1 Fm426 6 rfl).trans ((fr1 Fm413 6 rfl).trans ((fr1 Fm398 6 rfl).trans (fr1 Fm385 6 rfl))))))] at h454
    replace h455 : ∀ k, (m450.2 14) k + (m450.2 15) k ≤ 4000 := h455
    have hf463 : 1 ≤ (m450.1 10) := by omega
    clear c456
    clear h453
    have hLx := h454
    have hNM := h455
    clear g443 g444 g445 g446 hf447 h439
    have G464 : ∀ j, (-2) ≤ (upI (m.2 44) d x451) j ∧ (upI (m.2 44) d x451) j ≤ 15 := upI_rg (hT.2.1 44) ⟨by omega, by omega⟩
    refine T_iast (a' := [(44, upI (m.2 44) d x451)]) 90 44 (m.2 44) rfl rfl rfl (by omega) (show d < (16 : Int) by omega) (show (m450.2 44) = (m.2 44) from ((fr2 Fm450 44 rfl).trans ((fr2 Fm438 44 rfl).trans ((fr2 Fm426 44 rfl).trans ((fr2 Fm413 44 rfl).trans ((fr2 Fm398 44 rfl).trans (fr2 Fm385 44 rfl))))))) rfl ?_
    refine T_ld 91 (.ref 189) rfl (fun _ => rfl) ?_
    refine T_ld 93 (.int (i32 59)) rfl (fun _ => rfl) ?_
    refine T_call 96 232 [.ref 189, .int (i32 59)] [] rfl (fun _ => rfl) rfl (d_need w (mO m450 [] [(44, upI (m.2 44) d x451)]) c N D (by omega) (Ty_mO Tm450 rfl rfl trivial ⟨G464, trivial⟩) 59 ⟨by decide, by decide⟩ (show 1 ≤ (59 : Int) by omega) (show LxP (m450.1 7) (m450.1 8) (m450.1 9) (m450.1 6) (m450.1 10) by rewrite [(show (m450.1 6) = (m.1 6) from ((fr1 Fm450 6 rfl).trans ((fr1 Fm438 6 rfl).trans ((fr1 Fm426 6 rfl).trans ((fr1 Fm413 6 rfl).trans ((fr1 Fm398 6 rfl).trans (fr1 Fm385 6 rfl)))))))]; first | exact hLx | (intro h9; exfalso; omega) | (intro h9; have h8 := hLx (by omega); omega))) (fun rr465 k466 => ?_)
    obtain ⟨m467, Tm467, Fm467, h468, h469, h470, h471, rfl⟩ := k466
    refine ⟨_, _, rfl, ?_⟩
    refine T_nb (st' := []) rfl ?_
    have g472 : 0 ≤ m467.1 7 ∧ m467.1 7 ≤ 330 := Tm467.1 7
    have g473 : 0 ≤ m467.1 8 ∧ m467.1 8 ≤ 4000 := Tm467.1 8
    have g474 : 0 ≤ m467.1 9 ∧ m467.1 9 ≤ 4000 := Tm467.1 9
    have g475 : 0 ≤ m467.1 10 ∧ m467.1 10 ≤ 8 := Tm467.1 10
    replace h468 : LxP (m467.1 7) (m467.1 8) (m467.1 9) (m450.1 6) (m467.1 10) := h468
    rewrite [(show (m450.1 6) = (m.1 6) from ((fr1 Fm450 6 rfl).trans ((fr1 Fm438 6 rfl).trans ((fr1 Fm426 6 rfl).trans ((fr1 Fm413 6 rfl).trans ((fr1 Fm398 6 rfl).trans (fr1 Fm385 6 rfl)))))))] at h468
    replace h469 : (m467.1 10) = 0 → (m450.1 10) = 0 ∧ (m450.1 7) = (59 : Int) := h469
    replace h470 : (m450.1 8) ≤ (m467.1 8) := h470
    replace h471 : (m467.1 10) = 0 → (m450.1 8) + (m450.1 9) ≤ (m467.1 8) := h471
    have hf476 : 1 ≤ (m467.1 10) := by omega
    clear h469
    clear h471
    have hLx := h468
    clear g457 g458 g459 g460 hf463 h454 h470
    refine T_ld 97 (.ref 189) rfl (fun _ => rfl) ?_
    refine T_ld 99 (.int (i32 125)) rfl (fun _ => rfl) ?_
    refine T_call 102 232 [.ref 189, .int (i32 125)] [] rfl (fun _ => rfl) rfl (d_need w (mO m467 [] []) c N D (by omega) Tm467 125 ⟨by decide, by decide⟩ (show 1 ≤ (125 : Int) by omega) (show LxP (m467.1 7) (m467.1 8) (m467.1 9) (m467.1 6) (m467.1 10) by rewrite [(show (m467.1 6) = (m.1 6) from ((fr1 Fm467 6 rfl).trans ((fr1 Fm450 6 rfl).trans ((fr1 Fm438 6 rfl).trans ((fr1 Fm426 6 rfl).trans ((fr1 Fm413 6 rfl).trans ((fr1 Fm398 6 rfl).trans (fr1 Fm385 6 rfl))))))))]; first | exact hLx | (intro h9; exfalso; omega) | (intro h9; have h8 := hLx (by omega); omega))) (fun rr477 k478 => ?_)
    obtain ⟨m479, Tm479, Fm479, h480, h481, h482, h483, rfl⟩ := k478
    refine ⟨_, _, rfl, ?_⟩
    refine T_nb (st' := []) rfl ?_
    have g484 : 0 ≤ m479.1 7 ∧ m479.1 7 ≤ 330 := Tm479.1 7
    have g485 : 0 ≤ m479.1 8 ∧ m479.1 8 ≤ 4000 := Tm479.1 8
    have g486 : 0 ≤ m479.1 9 ∧ m479.1 9 ≤ 4000 := Tm479.1 9
    have g487 : 0 ≤ m479.1 10 ∧ m479.1 10 ≤ 8 := Tm479.1 10
    replace h480 : LxP (m479.1 7) (m479.1 8) (m479.1 9) (m467.1 6) (m479.1 10) := h480
    rewrite [(show (m467.1 6) = (m.1 6) from ((fr1 Fm467 6 rfl).trans ((fr1 Fm450 6 rfl).trans ((fr1 Fm438 6 rfl).trans ((fr1 Fm426 6 rfl).trans ((fr1 Fm413 6 rfl).trans ((fr1 Fm398 6 rfl).trans (fr1 Fm385 6 rfl))))))))] at h480
    replace h481 : (m479.1 10) = 0 → (m467.1 10) = 0 ∧ (m467.1 7) = (125 : Int) := h481
    replace h482 : (m467.1 8) ≤ (m479.1 8) := h482
    replace h483 : (m479.1 10) = 0 → (m467.1 8) + (m467.1 9) ≤ (m479.1 8) := h483
    have hf488 : 1 ≤ (m479.1 10) := by omega
    clear h481
    clear h483
    have hLx := h480
    clear g472 g473 g474 g475 hf476 h468 h482
    refine T_ret rfl (fun _ => rfl) ?_
    exact ⟨(mO m479 [] []), Tm479, (fr_m (fr_s Fm479 (fr_m (fr_s Fm467 (fr_m (fr_s Fm450 (fr_m (fr_s Fm438 (fr_m (fr_s Fm426 (fr_m (fr_s Fm413 (fr_m (fr_s Fm398 (fr_m (fr_s Fm385 (fr_m fr_0 rfl rfl) rfl rfl) rfl rfl) rfl rfl) rfl rfl) rfl rfl) rfl rfl) rfl rfl) rfl rfl) rfl rfl) rfl rfl) rfl rfl) rfl rfl) rfl rfl) rfl rfl) rfl rfl) rfl rfl), (show (m479.1 10) = 0 → (m.1 10) = 0 by omega), (show LxP (m479.1 7) (m479.1 8) (m479.1 9) (m.1 6) (m479.1 10) by first | (first | exact hLx | exact (fun _ => hLx (by omega)) | (intro h9; exfalso; omega)) | (exfalso; omega)), (show ∀ k, (m479.2 14) k + (m479.2 15) k ≤ 4000 by rewrite [(show (m479.2 14) = (m450.2 14) from ((fr2 Fm479 14 rfl).trans (fr2 Fm467 14 rfl))), (show (m479.2 15) = (m450.2 15) from ((fr2 Fm479 15 rfl).trans (fr2 Fm467 15 rfl)))]; first | (first | exact hNM | (intro k; rw [hE1, hE2]; have := hNM k; have h7 := hLx0 hf0; unfold upI; split <;> omega)) | (exfalso; omega)), (fun (h : (m479.1 10) = 0) => absurd h (by omega)), rfl⟩
