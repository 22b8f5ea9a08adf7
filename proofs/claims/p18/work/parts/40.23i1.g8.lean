def fF_takeState : List Nat := [7, 8, 9, 10, 11, 12, 13, 23, 24, 28, 69, 70, 71, 72, 73, 74, 75]
def fA_takeState : List Nat := [14, 15, 16, 17, 37, 38, 39, 40, 41, 42, 43, 44, 45, 65, 66, 67, 68, 76, 77, 78, 79, 80, 81, 82, 83, 84, 85, 86, 87, 88, 89, 90, 91, 92, 94, 95, 96, 97, 98]
def Q_takeState (m : mR) (c : Nat → Option am_C) (N : Nat) : ag_Re af_T → Prop := fun R => ∃ (M : mR), Ty M ∧ fr fF_takeState fA_takeState m M ∧ ((M.1 10) = 0 → (m.1 10) = 0) ∧ (LxP (M.1 7) (M.1 8) (M.1 9) (m.1 6) (M.1 10)) ∧ (∀ k, (M.2 14) k + (M.2 15) k ≤ 4000) ∧ (M.1 10 = 0 → ((m.1 8) + 1 ≤ (M.1 8)) ∧ (PN (M.1 13) (m.1 19) (m.1 20) (m.1 21) (m.1 22) (M.1 23) (m.1 25) (m.1 26) (M.2 16) (M.2 17)) ∧ (CN (M.2 65) (M.2 67) (M.1 28)) ∧ (SOp (M.2 38) (M.1 23) (M.1 24)) ∧ ((m.1 23) ≤ (M.1 23)) ∧ ((m.1 28) ≤ (M.1 28)) ∧ (agr (m.2 65) (M.2 65) (m.1 28)) ∧ (StP (M.2 65) (M.1 28) (M.1 23) (M.1 24) (M.2 42) (M.2 95) (M.2 96) (M.2 44) (M.2 45))) ∧ R = (.inl (none), (mhp M c, N), 0, 0)
set_option maxHeartbeats 3000000 in
theorem c_takeState (w : wX) (m : mR) (c : Nat → Option am_C) (N D : Nat) (hD : 12 ≤ D) (hT : Ty m) (hLx0 : LxP (m.1 7) (m.1 8) (m.1 9) (m.1 6) (m.1 10)) (hNM0 : ∀ k, (m.2 14) k + (m.2 15) k ≤ 4000) (hFA0 : ∀ k, (m.2 31) k + (m.2 32) k ≤ 4000) (hPA0 : ∀ k, (m.2 47) k + (m.2 48) k ≤ 4000) (hC : m.1 10 = 0 → (PN (m.1 13) (m.1 19) (m.1 20) (m.1 21) (m.1 22) (m.1 23) (m.1 25) (m.1 26) (m.2 16) (m.2 17)) ∧ (CN (m.2 65) (m.2 67) (m.1 28)) ∧ (SOp (m.2 38) (m.1 23) (m.1 24)) ∧ (StP (m.2 65) (m.1 28) (m.1 23) (m.1 24) (m.2 42) (m.2 95) (m.2 96) (m.2 44) (m.2 45)) ∧ ((m.1 7) ≠ 0)) : TC w D 240 [.ref 189] (mhp m c, N) (Q_takeState m c N) := by
  obtain ⟨D, rfl⟩ : ∃ k, D = k + 1 := ⟨D - 1, by omega⟩
  have hLx := hLx0
  have hNM := hNM0
  have hFA := hFA0
  have hPA := hPA0
  have f7 : 0 ≤ m.1 7 ∧ m.1 7 ≤ 330 := hT.1 7
  have f8 : 0 ≤ m.1 8 ∧ m.1 8 ≤ 4000 := hT.1 8
  have f9 : 0 ≤ m.1 9 ∧ m.1 9 ≤ 4000 := hT.1 9
  have f10 : 0 ≤ m.1 10 ∧ m.1 10 ≤ 8 := hT.1 10
  have f11 : (-1) ≤ m.1 11 ∧ m.1 11 ≤ 4000 := hT.1 11
  have f13 : 0 ≤ m.1 13 ∧ m.1 13 ≤ 120 := hT.1 13
  have f23 : 0 ≤ m.1 23 ∧ m.1 23 ≤ 16 := hT.1 23
  have f24 : 0 ≤ m.1 24 ∧ m.1 24 ≤ 16 := hT.1 24
  have f28 : 0 ≤ m.1 28 ∧ m.1 28 ≤ 800 := hT.1 28
  have f25 : 0 ≤ m.1 25 ∧ m.1 25 ≤ 16 := hT.1 25
  have f22 : 0 ≤ m.1 22 ∧ m.1 22 ≤ 8 := hT.1 22
  have f19 : 0 ≤ m.1 19 ∧ m.1 19 ≤ 12 := hT.1 19
  have f20 : 0 ≤ m.1 20 ∧ m.1 20 ≤ 12 := hT.1 20
  have f21 : 0 ≤ m.1 21 ∧ m.1 21 ≤ 16 := hT.1 21
  have f6 : 0 ≤ m.1 6 ∧ m.1 6 ≤ 4000 := hT.1 6
  have f26 : 0 ≤ m.1 26 ∧ m.1 26 ≤ 8 := hT.1 26
  refine Tc_of rfl ?_
  show TT w D pm_240 (0, [(0, .ref 189)], [], (mhp (mO m [] []) c, N), 0, 0) (Q_takeState m c N)
  by_cases hf0 : m.1 10 = 0
  · skip
    obtain ⟨pPN, hCN, pSO, pSt, c1⟩ := hC hf0
    have h7 := hLx (by omega)
    have hNM := hNM0
    have hn := pPN.1
    have hSle := SOp_le pSO
    have hAg := agr_r (m.2 65) (m.1 28)
    have J343_22 : ∀ (m21 : mR), Ty m21 → fr [7, 8, 9, 10, 11, 12, 13, 23, 24, 28, 69, 70, 71, 72, 73, 74, 75] [14, 15, 16, 17, 37, 38, 39, 40, 41, 42, 43, 44, 45, 65, 66, 67, 68, 76, 77, 78, 79, 80, 81, 82, 83, 84, 85, 86, 87, 88, 89, 90, 91, 92, 94, 95, 96, 97, 98] (mO m [] []) m21 → (∀ k, (m21.2 14) k + (m21.2 15) k ≤ 4000) → ((m.1 24) ≤ 15) → (1 ≤ (m21.1 10)) → TT w D pm_240 (343, [(0, .ref 189)], [], (mhp (mO m21 [] []) c, N), 0, 0) (Q_takeState m c N) := by
      intro m21 Tm21 Fm21 ic23 ic24 ic25
      have q26_7 : 0 ≤ m21.1 7 ∧ m21.1 7 ≤ 330 := Tm21.1 7
      have q26_8 : 0 ≤ m21.1 8 ∧ m21.1 8 ≤ 4000 := Tm21.1 8
      have q26_9 : 0 ≤ m21.1 9 ∧ m21.1 9 ≤ 4000 := Tm21.1 9
      have q26_10 : 0 ≤ m21.1 10 ∧ m21.1 10 ≤ 8 := Tm21.1 10
      have q26_11 : (-1) ≤ m21.1 11 ∧ m21.1 11 ≤ 4000 := Tm21.1 11
      have q26_13 : 0 ≤ m21.1 13 ∧ m21.1 13 ≤ 120 := Tm21.1 13
      have q26_23 : 0 ≤ m21.1 23 ∧ m21.1 23 ≤ 16 := Tm21.1 23
      have q26_24 : 0 ≤ m21.1 24 ∧ m21.1 24 ≤ 16 := Tm21.1 24
      have q26_28 : 0 ≤ m21.1 28 ∧ m21.1 28 ≤ 800 := Tm21.1 28
      have hNM := ic23
      refine T_ret rfl (fun _ => rfl) ?_
      exact ⟨(mO m21 [] []), Tm21, (fr_m (fr_s Fm21 (fr_m fr_0 rfl rfl) rfl rfl) rfl rfl), (show (m21.1 10) = 0 → (m.1 10) = 0 by omega), (show LxP (m21.1 7) (m21.1 8) (m21.1 9) (m.1 6) (m21.1 10) by first | (first | exact hLx | exact (fun _ => hLx (by omega)) | (intro h9; exfalso; omega)) | (exfalso; omega)), (show ∀ k, (m21.2 14) k + (m21.2 15) k ≤ 4000 by first | (first | exact hNM | (intro k; rw [hE1, hE2]; have := hNM k; have h7 := hLx0 hf0; unfold upI; split <;> omega)) | (exfalso; omega)), (fun (h : (m21.1 10) = 0) => absurd h (by omega)), rfl⟩
    have J337_30 : ∀ (m29 : mR), Ty m29 → fr [7, 8, 9, 10, 11, 12, 13, 23, 24] [14, 15, 16, 17, 37, 38, 39, 40, 41, 42, 43, 94] (mO m [] []) m29 → (∀ k, (m29.2 14) k + (m29.2 15) k ≤ 4000) → ((m.1 24) ≤ 15) → (1 ≤ (m29.1 10)) → TT w D pm_240 (337, [(0, .ref 189)], [], (mhp (mO m29 [] []) c, N), 0, 0) (Q_takeState m c N) := by
      intro m29 Tm29 Fm29 ic31 ic32 ic33
      have q34_7 : 0 ≤ m29.1 7 ∧ m29.1 7 ≤ 330 := Tm29.1 7
      have q34_8 : 0 ≤ m29.1 8 ∧ m29.1 8 ≤ 4000 := Tm29.1 8
      have q34_9 : 0 ≤ m29.1 9 ∧ m29.1 9 ≤ 4000 := Tm29.1 9
      have q34_10 : 0 ≤ m29.1 10 ∧ m29.1 10 ≤ 8 := Tm29.1 10
      have q34_11 : (-1) ≤ m29.1 11 ∧ m29.1 11 ≤ 4000 := Tm29.1 11
      have q34_13 : 0 ≤ m29.1 13 ∧ m29.1 13 ≤ 120 := Tm29.1 13
      have q34_23 : 0 ≤ m29.1 23 ∧ m29.1 23 ≤ 16 := Tm29.1 23
      have q34_24 : 0 ≤ m29.1 24 ∧ m29.1 24 ≤ 16 := Tm29.1 24
      have hNM := ic31
      refine T_ld 338 (.ref 189) rfl (fun _ => rfl) ?_
      refine T_ld 340 (.int (i32 125)) rfl (fun _ => rfl) ?_
      refine T_call 343 232 [.ref 189, .int (i32 125)] [] rfl (fun _ => rfl) rfl (d_need w (mO m29 [] []) c N D (by omega) Tm29 125 ⟨by decide, by decide⟩ (show 1 ≤ (125 : Int) by omega) (show LxP (m29.1 7) (m29.1 8) (m29.1 9) (m29.1 6) (m29.1 10) by rewrite [(show (m29.1 6) = (m.1 6) from (fr1 Fm29 6 rfl))]; first | exact hLx | (intro h9; exfalso; omega) | (intro h9; have h8 := hLx (by omega); omega))) (fun rr37 k38 => ?_)
      obtain ⟨m39, Tm39, Fm39, h40, h41, h42, h43, rfl⟩ := k38
      refine ⟨_, _, rfl, ?_⟩
      refine T_nb (st' := []) rfl ?_
      have g44 : 0 ≤ m39.1 7 ∧ m39.1 7 ≤ 330 := Tm39.1 7
      have g45 : 0 ≤ m39.1 8 ∧ m39.1 8 ≤ 4000 := Tm39.1 8
      have g46 : 0 ≤ m39.1 9 ∧ m39.1 9 ≤ 4000 := Tm39.1 9
      have g47 : 0 ≤ m39.1 10 ∧ m39.1 10 ≤ 8 := Tm39.1 10
      have g48 : (-1) ≤ m39.1 11 ∧ m39.1 11 ≤ 4000 := Tm39.1 11
      replace h40 : LxP (m39.1 7) (m39.1 8) (m39.1 9) (m29.1 6) (m39.1 10) := h40
      rewrite [(show (m29.1 6) = (m.1 6) from (fr1 Fm29 6 rfl))] at h40
      replace h41 : (m39.1 10) = 0 → (m29.1 10) = 0 ∧ (m29.1 7) = (125 : Int) := h41
      replace h42 : (m29.1 8) ≤ (m39.1 8) := h42
      replace h43 : (m39.1 10) = 0 → (m29.1 8) + (m29.1 9) ≤ (m39.1 8) := h43
      have hf49 : 1 ≤ (m39.1 10) := by omega
      clear h41
      clear h43
      have hLx := h40
      clear q34_7 q34_8 q34_9 q34_10 q34_11 ic33 h42
      exact J343_22 (mO m39 [] []) Tm39 (fr_m (fr_s Fm39 (fr_m (fr_s Fm29 (fr_m fr_0 rfl rfl) rfl rfl) rfl rfl) rfl rfl) rfl rfl) (show ∀ k, (m39.2 14) k + (m39.2 15) k ≤ 4000 by rewrite [(show (m39.2 14) = (m29.2 14) from (fr2 Fm39 14 rfl)), (show (m39.2 15) = (m29.2 15) from (fr2 Fm39 15 rfl))]; first | exact hNM | (intro k; rw [hE1, hE2]; have := hNM0 k; have h7 := hLx1; unfold upI; split <;> omega)) (show (m.1 24) ≤ 15 by omega) (show 1 ≤ (m39.1 10) by omega)
    have J330_51 : ∀ (m50 : mR), Ty m50 → fr [7, 8, 9, 10, 11, 12, 13, 23, 24, 28, 69, 70, 71, 72, 73, 74, 75] [14, 15, 16, 17, 37, 38, 39, 40, 41, 42, 43, 44, 45, 65, 66, 67, 68, 76, 77, 78, 79, 80, 81, 82, 83, 84, 85, 86, 87, 88, 89, 90, 91, 92, 94, 95, 96, 97, 98] (mO m [] []) m50 → (∀ k, (m50.2 14) k + (m50.2 15) k ≤ 4000) → ((m.1 24) ≤ 15) → (1 ≤ (m50.1 10)) → TT w D pm_240 (330, [(0, .ref 189)], [], (mhp (mO m50 [] []) c, N), 0, 0) (Q_takeState m c N) := by
      intro m50 Tm50 Fm50 ic52 ic53 ic54
      have q55_7 : 0 ≤ m50.1 7 ∧ m50.1 7 ≤ 330 := Tm50.1 7
      have q55_8 : 0 ≤ m50.1 8 ∧ m50.1 8 ≤ 4000 := Tm50.1 8
      have q55_9 : 0 ≤ m50.1 9 ∧ m50.1 9 ≤ 4000 := Tm50.1 9
      have q55_10 : 0 ≤ m50.1 10 ∧ m50.1 10 ≤ 8 := Tm50.1 10
      have q55_11 : (-1) ≤ m50.1 11 ∧ m50.1 11 ≤ 4000 := Tm50.1 11
      have q55_13 : 0 ≤ m50.1 13 ∧ m50.1 13 ≤ 120 := Tm50.1 13
      have q55_23 : 0 ≤ m50.1 23 ∧ m50.1 23 ≤ 16 := Tm50.1 23
      have q55_24 : 0 ≤ m50.1 24 ∧ m50.1 24 ≤ 16 := Tm50.1 24
      have q55_28 : 0 ≤ m50.1 28 ∧ m50.1 28 ≤ 800 := Tm50.1 28
      have hNM := ic52
      refine T_goto 337 rfl (fun _ => rfl) ?_
      refine T_ld 338 (.ref 189) rfl (fun _ => rfl) ?_
      refine T_ld 340 (.int (i32 125)) rfl (fun _ => rfl) ?_
      refine T_call 343 232 [.ref 189, .int (i32 125)] [] rfl (fun _ => rfl) rfl (d_need w (mO m50 [] []) c N D (by omega) Tm50 125 ⟨by decide, by decide⟩ (show 1 ≤ (125 : Int) by omega) (show LxP (m50.1 7) (m50.1 8) (m50.1 9) (m50.1 6) (m50.1 10) by rewrite [(show (m50.1 6) = (m.1 6) from (fr1 Fm50 6 rfl))]; first | exact hLx | (intro h9; exfalso; omega) | (intro h9; have h8 := hLx (by omega); omega))) (fun rr58 k59 => ?_)
      obtain ⟨m60, Tm60, Fm60, h61, h62, h63, h64, rfl⟩ := k59
      refine ⟨_, _, rfl, ?_⟩
      refine T_nb (st' := []) rfl ?_
      have g65 : 0 ≤ m60.1 7 ∧ m60.1 7 ≤ 330 := Tm60.1 7
      have g66 : 0 ≤ m60.1 8 ∧ m60.1 8 ≤ 4000 := Tm60.1 8
      have g67 : 0 ≤ m60.1 9 ∧ m60.1 9 ≤ 4000 := Tm60.1 9
      have g68 : 0 ≤ m60.1 10 ∧ m60.1 10 ≤ 8 := Tm60.1 10
      have g69 : (-1) ≤ m60.1 11 ∧ m60.1 11 ≤ 4000 := Tm60.1 11
      replace h61 : LxP (m60.1 7) (m60.1 8) (m60.1 9) (m50.1 6) (m60.1 10) := h61
      rewrite [(show (m50.1 6) = (m.1 6) from (fr1 Fm50 6 rfl))] at h61
      replace h62 : (m60.1 10) = 0 → (m50.1 10) = 0 ∧ (m50.1 7) = (125 : Int) := h62
      replace h63 : (m50.1 8) ≤ (m60.1 8) := h63
      replace h64 : (m60.1 10) = 0 → (m50.1 8) + (m50.1 9) ≤ (m60.1 8) := h64
      have hf70 : 1 ≤ (m60.1 10) := by omega
      clear h62
      clear h64
      have hLx := h61
      clear q55_7 q55_8 q55_9 q55_10 q55_11 ic54 h63
      exact J343_22 (mO m60 [] []) Tm60 (fr_m (fr_s Fm60 (fr_m (fr_s Fm50 (fr_m fr_0 rfl rfl) rfl rfl) rfl rfl) rfl rfl) rfl rfl) (show ∀ k, (m60.2 14) k + (m60.2 15) k ≤ 4000 by rewrite [(show (m60.2 14) = (m50.2 14) from (fr2 Fm60 14 rfl)), (show (m60.2 15) = (m50.2 15) from (fr2 Fm60 15 rfl))]; first | exact hNM | (intro k; rw [hE1, hE2]; have := hNM0 k; have h7 := hLx1; unfold upI; split <;> omega)) (show (m.1 24) ≤ 15 by omega) (show 1 ≤ (m60.1 10) by omega)
    have J312_72 : ∀ (m71 : mR), Ty m71 → fr [7, 8, 9, 10, 11, 12, 13, 23, 24] [14, 15, 16, 17, 37, 38, 39, 40, 41, 42, 43, 44, 94] (mO m [] []) m71 → (∀ k, (m71.2 14) k + (m71.2 15) k ≤ 4000) → ((m.1 24) ≤ 15) → (1 ≤ (m71.1 10)) → TT w D pm_240 (312, [(0, .ref 189)], [], (mhp (mO m71 [] []) c, N), 0, 0) (Q_takeState m c N) := by
      intro m71 Tm71 Fm71 ic73 ic74 ic75
      have q76_7 : 0 ≤ m71.1 7 ∧ m71.1 7 ≤ 330 := Tm71.1 7
      have q76_8 : 0 ≤ m71.1 8 ∧ m71.1 8 ≤ 4000 := Tm71.1 8
      have q76_9 : 0 ≤ m71.1 9 ∧ m71.1 9 ≤ 4000 := Tm71.1 9
      have q76_10 : 0 ≤ m71.1 10 ∧ m71.1 10 ≤ 8 := Tm71.1 10
      have q76_11 : (-1) ≤ m71.1 11 ∧ m71.1 11 ≤ 4000 := Tm71.1 11
      have q76_13 : 0 ≤ m71.1 13 ∧ m71.1 13 ≤ 120 := Tm71.1 13
      have q76_23 : 0 ≤ m71.1 23 ∧ m71.1 23 ≤ 16 := Tm71.1 23
      have q76_24 : 0 ≤ m71.1 24 ∧ m71.1 24 ≤ 16 := Tm71.1 24
      have hNM := ic73
      refine T_goto 337 rfl (fun _ => rfl) ?_
      refine T_ld 338 (.ref 189) rfl (fun _ => rfl) ?_
      refine T_ld 340 (.int (i32 125)) rfl (fun _ => rfl) ?_
      refine T_call 343 232 [.ref 189, .int (i32 125)] [] rfl (fun _ => rfl) rfl (d_need w (mO m71 [] []) c N D (by omega) Tm71 125 ⟨by decide, by decide⟩ (show 1 ≤ (125 : Int) by omega) (show LxP (m71.1 7) (m71.1 8) (m71.1 9) (m71.1 6) (m71.1 10) by rewrite [(show (m71.1 6) = (m.1 6) from (fr1 Fm71 6 rfl))]; first | exact hLx | (intro h9; exfalso; omega) | (intro h9; have h8 := hLx (by omega); omega))) (fun rr79 k80 => ?_)
      obtain ⟨m81, Tm81, Fm81, h82, h83, h84, h85, rfl⟩ := k80
      refine ⟨_, _, rfl, ?_⟩
      refine T_nb (st' := []) rfl ?_
      have g86 : 0 ≤ m81.1 7 ∧ m81.1 7 ≤ 330 := Tm81.1 7
      have g87 : 0 ≤ m81.1 8 ∧ m81.1 8 ≤ 4000 := Tm81.1 8
      have g88 : 0 ≤ m81.1 9 ∧ m81.1 9 ≤ 4000 := Tm81.1 9
      have g89 : 0 ≤ m81.1 10 ∧ m81.1 10 ≤ 8 := Tm81.1 10
      have g90 : (-1) ≤ m81.1 11 ∧ m81.1 11 ≤ 4000 := Tm81.1 11
      replace h82 : LxP (m81.1 7) (m81.1 8) (m81.1 9) (m71.1 6) (m81.1 10) := h82
      rewrite [(show (m71.1 6) = (m.1 6) from (fr1 Fm71 6 rfl))] at h82
      replace h83 : (m81.1 10) = 0 → (m71.1 10) = 0 ∧ (m71.1 7) = (125 : Int) := h83
      replace h84 : (m71.1 8) ≤ (m81.1 8) := h84
      replace h85 : (m81.1 10) = 0 → (m71.1 8) + (m71.1 9) ≤ (m81.1 8) := h85
      have hf91 : 1 ≤ (m81.1 10) := by omega
      clear h83
      clear h85
      have hLx := h82
      clear q76_7 q76_8 q76_9 q76_10 q76_11 ic75 h84
      exact J343_22 (mO m81 [] []) Tm81 (fr_m (fr_s Fm81 (fr_m (fr_s Fm71 (fr_m fr_0 rfl rfl) rfl rfl) rfl rfl) rfl rfl) rfl rfl) (show ∀ k, (m81.2 14) k + (m81.2 15) k ≤ 4000 by rewrite [(show (m81.2 14) = (m71.2 14) from (fr2 Fm81 14 rfl)), (show (m81.2 15) = (m71.2 15) from (fr2 Fm81 15 rfl))]; first | exact hNM | (intro k; rw [hE1, hE2]; have := hNM0 k; have h7 := hLx1; unfold upI; split <;> omega)) (show (m.1 24) ≤ 15 by omega) (show 1 ≤ (m81.1 10) by omega)
    have J305_94 : ∀ (s92 : Int) (m93 : mR), (R32 s92) → Ty m93 → fr [7, 8, 9, 10, 11, 12, 13, 23, 24] [14, 15, 16, 17, 37, 38, 39, 40, 41, 42, 43, 94] (mO m [] []) m93 → ((-2) ≤ s92) → (s92 ≤ 15) → (∀ k, (m93.2 14) k + (m93.2 15) k ≤ 4000) → ((m.1 24) ≤ 15) → (0 ≤ (m.1 24) ∧ (m.1 24) ≤ 16) → (1 ≤ (m93.1 10)) → TT w D pm_240 (305, [(0, .ref 189)], [.int (i32 s92), .int (i32 (m.1 24)), .ref 214], (mhp (mO m93 [] []) c, N), 0, 0) (Q_takeState m c N) := by
      intro s92 m93 q101 Tm93 Fm93 ic95 ic96 ic97 ic98 ic99 ic100
      obtain ⟨q101a, q101b⟩ := id q101
      have q102_7 : 0 ≤ m93.1 7 ∧ m93.1 7 ≤ 330 := Tm93.1 7
      have q102_8 : 0 ≤ m93.1 8 ∧ m93.1 8 ≤ 4000 := Tm93.1 8
      have q102_9 : 0 ≤ m93.1 9 ∧ m93.1 9 ≤ 4000 := Tm93.1 9
      have q102_10 : 0 ≤ m93.1 10 ∧ m93.1 10 ≤ 8 := Tm93.1 10
      have q102_11 : (-1) ≤ m93.1 11 ∧ m93.1 11 ≤ 4000 := Tm93.1 11
      have q102_13 : 0 ≤ m93.1 13 ∧ m93.1 13 ≤ 120 := Tm93.1 13
      have q102_23 : 0 ≤ m93.1 23 ∧ m93.1 23 ≤ 16 := Tm93.1 23
      have q102_24 : 0 ≤ m93.1 24 ∧ m93.1 24 ≤ 16 := Tm93.1 24
      have hNM := ic97
      have G105 : ∀ j, (-2) ≤ (upI (m.2 44) (m.1 24) s92) j ∧ (upI (m.2 44) (m.1 24) s92) j ≤ 15 := upI_rg (hT.2.1 44) ⟨by omega, by omega⟩
      refine T_iast (a' := [(44, upI (m.2 44) (m.1 24) s92)]) 306 44 (m.2 44) rfl rfl rfl (by omega) (show (m.1 24) < (16 : Int) by omega) (show (m93.2 44) = (m.2 44) from (fr2 Fm93 44 rfl)) rfl ?_
      refine T_ld 307 (.ref 189) rfl (fun _ => rfl) ?_
      refine T_ld 309 (.int (i32 59)) rfl (fun _ => rfl) ?_
      refine T_call 312 232 [.ref 189, .int (i32 59)] [] rfl (fun _ => rfl) rfl (d_need w (mO m93 [] [(44, upI (m.2 44) (m.1 24) s92)]) c N D (by omega) (Ty_mO Tm93 rfl rfl trivial ⟨G105, trivial⟩) 59 ⟨by decide, by decide⟩ (show 1 ≤ (59 : Int) by omega) (show LxP (m93.1 7) (m93.1 8) (m93.1 9) (m93.1 6) (m93.1 10) by rewrite [(show (m93.1 6) = (m.1 6) from (fr1 Fm93 6 rfl))]; first | exact hLx | (intro h9; exfalso; omega) | (intro h9; have h8 := hLx (by omega); omega))) (fun rr106 k107 => ?_)
      obtain ⟨m108, Tm108, Fm108, h109, h110, h111, h112, rfl⟩ := k107
      refine ⟨_, _, rfl, ?_⟩
      refine T_nb (st' := []) rfl ?_
      have g113 : 0 ≤ m108.1 7 ∧ m108.1 7 ≤ 330 := Tm108.1 7
      have g114 : 0 ≤ m108.1 8 ∧ m108.1 8 ≤ 4000 := Tm108.1 8
      have g115 : 0 ≤ m108.1 9 ∧ m108.1 9 ≤ 4000 := Tm108.1 9
      have g116 : 0 ≤ m108.1 10 ∧ m108.1 10 ≤ 8 := Tm108.1 10
      have g117 : (-1) ≤ m108.1 11 ∧ m108.1 11 ≤ 4000 := Tm108.1 11
      replace h109 : LxP (m108.1 7) (m108.1 8) (m108.1 9) (m93.1 6) (m108.1 10) := h109
      rewrite [(show (m93.1 6) = (m.1 6) from (fr1 Fm93 6 rfl))] at h109
      replace h110 : (m108.1 10) = 0 → (m93.1 10) = 0 ∧ (m93.1 7) = (59 : Int) := h110
      replace h111 : (m93.1 8) ≤ (m108.1 8) := h111
      replace h112 : (m108.1 10) = 0 → (m93.1 8) + (m93.1 9) ≤ (m108.1 8) := h112
      have hf118 : 1 ≤ (m108.1 10) := by omega
      clear h110
      clear h112
      have hLx := h109
      clear q102_7 q102_8 q102_9 q102_10 q102_11 ic100 h111
      exact J312_72 (mO m108 [] []) Tm108 (fr_m (fr_s Fm108 (fr_m (fr_s Fm93 (fr_m fr_0 rfl rfl) rfl rfl) rfl rfl) rfl rfl) rfl rfl) (show ∀ k, (m108.2 14) k + (m108.2 15) k ≤ 4000 by rewrite [(show (m108.2 14) = (m93.2 14) from (fr2 Fm108 14 rfl)), (show (m108.2 15) = (m93.2 15) from (fr2 Fm108 15 rfl))]; first | exact hNM | (intro k; rw [hE1, hE2]; have := hNM0 k; have h7 := hLx1; unfold upI; split <;> omega)) (show (m.1 24) ≤ 15 by omega) (show 1 ≤ (m108.1 10) by omega)
    have J296_120 : ∀ (m119 : mR), Ty m119 → fr [7, 8, 9, 10, 11, 12, 13, 23, 24] [14, 15, 16, 17, 37, 38, 39, 40, 41, 42, 43, 94] (mO m [] []) m119 → (∀ k, (m119.2 14) k + (m119.2 15) k ≤ 4000) → ((m.1 24) ≤ 15) → (0 ≤ (m.1 24) ∧ (m.1 24) ≤ 16) → (1 ≤ (m119.1 10)) → TT w D pm_240 (296, [(0, .ref 189), (3, .int (i32 (m.1 24)))], [], (mhp (mO m119 [] []) c, N), 0, 0) (Q_takeState m c N) := by
      intro m119 Tm119 Fm119 ic121 ic122 ic123 ic124
      have q125_7 : 0 ≤ m119.1 7 ∧ m119.1 7 ≤ 330 := Tm119.1 7
      have q125_8 : 0 ≤ m119.1 8 ∧ m119.1 8 ≤ 4000 := Tm119.1 8
      have q125_9 : 0 ≤ m119.1 9 ∧ m119.1 9 ≤ 4000 := Tm119.1 9
      have q125_10 : 0 ≤ m119.1 10 ∧ m119.1 10 ≤ 8 := Tm119.1 10
      have q125_11 : (-1) ≤ m119.1 11 ∧ m119.1 11 ≤ 4000 := Tm119.1 11
      have q125_13 : 0 ≤ m119.1 13 ∧ m119.1 13 ≤ 120 := Tm119.1 13
      have q125_23 : 0 ≤ m119.1 23 ∧ m119.1 23 ≤ 16 := Tm119.1 23
      have q125_24 : 0 ≤ m119.1 24 ∧ m119.1 24 ≤ 16 := Tm119.1 24
      have hNM := ic121
      refine T_gf 300 (.ref 214) rfl rfl rfl rfl rfl rfl ?_
      refine T_ld 301 (.int (i32 (m.1 24))) rfl (fun _ => rfl) ?_
      refine T_ld 302 (.ref 189) rfl (fun _ => rfl) ?_
      refine T_call 305 242 [.ref 189] [.int (i32 (m.1 24)), .ref 214] rfl (fun _ => rfl) rfl (c_stateHere w (mO m119 [] []) c N D (by omega) Tm119 (show LxP (m119.1 7) (m119.1 8) (m119.1 9) (m119.1 6) (m119.1 10) by rewrite [(show (m119.1 6) = (m.1 6) from (fr1 Fm119 6 rfl))]; first | exact hLx | exact (fun _ => hLx (by omega)) | (intro h9; exfalso; omega)) (show ∀ k, (m119.2 14) k + (m119.2 15) k ≤ 4000 by assumption) (fun (h : (m119.1 10) = 0) => absurd h (by omega))) (fun rr128 k129 => ?_)
      obtain ⟨m130, x131, Tm130, Fm130, g132, h133, h134, h135, c136, rfl⟩ := k129
      refine ⟨_, _, rfl, ?_⟩
      refine T_nb (st' := [.int (i32 x131), .int (i32 (m.1 24)), .ref 214]) rfl ?_
      obtain ⟨g132a, g132b⟩ := g132
      have g137 : 0 ≤ m130.1 7 ∧ m130.1 7 ≤ 330 := Tm130.1 7
      have g138 : 0 ≤ m130.1 8 ∧ m130.1 8 ≤ 4000 := Tm130.1 8
      have g139 : 0 ≤ m130.1 9 ∧ m130.1 9 ≤ 4000 := Tm130.1 9
      have g140 : 0 ≤ m130.1 10 ∧ m130.1 10 ≤ 8 := Tm130.1 10
      have g141 : (-1) ≤ m130.1 11 ∧ m130.1 11 ≤ 4000 := Tm130.1 11
      have g142 : 0 ≤ m130.1 13 ∧ m130.1 13 ≤ 120 := Tm130.1 13
      have g143 : 0 ≤ m130.1 23 ∧ m130.1 23 ≤ 16 := Tm130.1 23
      replace h133 : (m130.1 10) = 0 → (m119.1 10) = 0 := h133
      replace h134 : LxP (m130.1 7) (m130.1 8) (m130.1 9) (m119.1 6) (m130.1 10) := h134
      rewrite [(show (m119.1 6) = (m.1 6) from (fr1 Fm119 6 rfl))] at h134
      replace h135 : ∀ k, (m130.2 14) k + (m130.2 15) k ≤ 4000 := h135
      have hf144 : 1 ≤ (m130.1 10) := by omega
      clear c136
      clear h133
      have hLx := h134
      have hNM := h135
      clear q125_7 q125_8 q125_9 q125_10 q125_11 q125_13 q125_23 ic121 ic124
      refine Tm_lv (a := [(0, .ref 189)]) rfl rfl ⟨rfl, trivial⟩ ?_
      exact J305_94 x131 (mO m130 [] []) (r32 (by omega) (by omega)) Tm130 (fr_m (fr_s Fm130 (fr_m (fr_s Fm119 (fr_m fr_0 rfl rfl) rfl rfl) rfl rfl) rfl rfl) rfl rfl) (show (-2) ≤ x131 by omega) (show x131 ≤ 15 by omega) (show ∀ k, (m130.2 14) k + (m130.2 15) k ≤ 4000 by first | exact hNM | (intro k; rw [hE1, hE2]; have := hNM0 k; have h7 := hLx1; unfold upI; split <;> omega)) (show (m.1 24) ≤ 15 by omega) (show 0 ≤ (m.1 24) ∧ (m.1 24) ≤ 16 by omega) (show 1 ≤ (m130.1 10) by omega)
    have J271_146 : ∀ (m145 : mR), Ty m145 → fr [7, 8, 9, 10, 11, 12, 13, 23, 24] [14, 15, 16, 17, 37, 38, 39, 40, 41, 42, 43, 94] (mO m [] []) m145 → (∀ k, (m145.2 14) k + (m145.2 15) k ≤ 4000) → ((m.1 24) ≤ 15) → (0 ≤ (m.1 24) ∧ (m.1 24) ≤ 16) → (1 ≤ (m145.1 10)) → TT w D pm_240 (271, [(0, .ref 189), (3, .int (i32 (m.1 24)))], [], (mhp (mO m145 [] []) c, N), 0, 0) (Q_takeState m c N) := by
      intro m145 Tm145 Fm145 ic147 ic148 ic149 ic150
      have q151_7 : 0 ≤ m145.1 7 ∧ m145.1 7 ≤ 330 := Tm145.1 7
      have q151_8 : 0 ≤ m145.1 8 ∧ m145.1 8 ≤ 4000 := Tm145.1 8
      have q151_9 : 0 ≤ m145.1 9 ∧ m145.1 9 ≤ 4000 := Tm145.1 9
      have q151_10 : 0 ≤ m145.1 10 ∧ m145.1 10 ≤ 8 := Tm145.1 10
      have q151_11 : (-1) ≤ m145.1 11 ∧ m145.1 11 ≤ 4000 := Tm145.1 11
      have q151_13 : 0 ≤ m145.1 13 ∧ m145.1 13 ≤ 120 := Tm145.1 13
      have q151_23 : 0 ≤ m145.1 23 ∧ m145.1 23 ≤ 16 := Tm145.1 23
      have q151_24 : 0 ≤ m145.1 24 ∧ m145.1 24 ≤ 16 := Tm145.1 24
      have hNM := ic147
      refine T_goto 249 rfl (fun _ => rfl) ?_
      refine T_gf 253 (.int (i32 (m145.1 10))) rfl rfl rfl rfl rfl rfl ?_
      refine T_if 274 256 rfl rfl rfl (r32 (by omega) (by omega)) (fun (h154 : (m145.1 10) ≠ 0) => ?_) (fun (h154 : ¬ ((m145.1 10) ≠ 0)) => by exfalso; omega)
      refine T_gf 278 (.int (i32 (m145.1 10))) rfl rfl rfl rfl rfl rfl ?_
      refine T_if 282 281 rfl rfl rfl (r32 (by omega) (by omega)) (fun (h155 : (m145.1 10) ≤ 0) => by exfalso; omega) (fun (h155 : ¬ ((m145.1 10) ≤ 0)) => ?_)
      refine T_ret rfl (fun _ => rfl) ?_
      exact ⟨(mO m145 [] []), Tm145, (fr_m (fr_s Fm145 (fr_m fr_0 rfl rfl) rfl rfl) rfl rfl), (show (m145.1 10) = 0 → (m.1 10) = 0 by omega), (show LxP (m145.1 7) (m145.1 8) (m145.1 9) (m.1 6) (m145.1 10) by first | (first | exact hLx | exact (fun _ => hLx (by omega)) | (intro h9; exfalso; omega)) | (exfalso; omega)), (show ∀ k, (m145.2 14) k + (m145.2 15) k ≤ 4000 by first | (first | exact hNM | (intro k; rw [hE1, hE2]; have := hNM k; have h7 := hLx0 hf0; unfold upI; split <;> omega)) | (exfalso; omega)), (fun (h : (m145.1 10) = 0) => absurd h (by omega)), rfl⟩
    have J249_157 : ∀ (m156 : mR), Ty m156 → fr [7, 8, 9, 10, 11, 12, 13, 23, 24] [14, 15, 16, 17, 37, 38, 39, 40, 41, 42, 43] (mO m [] []) m156 → (∀ k, (m156.2 14) k + (m156.2 15) k ≤ 4000) → ((m.1 24) ≤ 15) → (0 ≤ (m.1 24) ∧ (m.1 24) ≤ 16) → (1 ≤ (m156.1 10)) → TT w D pm_240 (249, [(0, .ref 189), (3, .int (i32 (m.1 24)))], [], (mhp (mO m156 [] []) c, N), 0, 0) (Q_takeState m c N) := by
      intro m156 Tm156 Fm156 ic158 ic159 ic160 ic161
      have q162_7 : 0 ≤ m156.1 7 ∧ m156.1 7 ≤ 330 := Tm156.1 7
      have q162_8 : 0 ≤ m156.1 8 ∧ m156.1 8 ≤ 4000 := Tm156.1 8
      have q162_9 : 0 ≤ m156.1 9 ∧ m156.1 9 ≤ 4000 := Tm156.1 9
      have q162_10 : 0 ≤ m156.1 10 ∧ m156.1 10 ≤ 8 := Tm156.1 10
      have q162_11 : (-1) ≤ m156.1 11 ∧ m156.1 11 ≤ 4000 := Tm156.1 11
      have q162_13 : 0 ≤ m156.1 13 ∧ m156.1 13 ≤ 120 := Tm156.1 13
      have q162_23 : 0 ≤ m156.1 23 ∧ m156.1 23 ≤ 16 := Tm156.1 23
      have q162_24 : 0 ≤ m156.1 24 ∧ m156.1 24 ≤ 16 := Tm156.1 24
      have hNM := ic158
      refine T_gf 253 (.int (i32 (m156.1 10))) rfl rfl rfl rfl rfl rfl ?_
      refine T_if 274 256 rfl rfl rfl (r32 (by omega) (by omega)) (fun (h165 : (m156.1 10) ≠ 0) => ?_) (fun (h165 : ¬ ((m156.1 10) ≠ 0)) => by exfalso; omega)
      refine T_gf 278 (.int (i32 (m156.1 10))) rfl rfl rfl rfl rfl rfl ?_
      refine T_if 282 281 rfl rfl rfl (r32 (by omega) (by omega)) (fun (h166 : (m156.1 10) ≤ 0) => by exfalso; omega) (fun (h166 : ¬ ((m156.1 10) ≤ 0)) => ?_)
      refine T_ret rfl (fun _ => rfl) ?_
      exact ⟨(mO m156 [] []), Tm156, (fr_m (fr_s Fm156 (fr_m fr_0 rfl rfl) rfl rfl) rfl rfl), (show (m156.1 10) = 0 → (m.1 10) = 0 by omega), (show LxP (m156.1 7) (m156.1 8) (m156.1 9) (m.1 6) (m156.1 10) by first | (first | exact hLx | exact (fun _ => hLx (by omega)) | (intro h9; exfalso; omega)) | (exfalso; omega)), (show ∀ k, (m156.2 14) k + (m156.2 15) k ≤ 4000 by first | (first | exact hNM | (intro k; rw [hE1, hE2]; have := hNM k; have h7 := hLx0 hf0; unfold upI; split <;> omega)) | (exfalso; omega)), (fun (h : (m156.1 10) = 0) => absurd h (by omega)), rfl⟩
    have J243_168 : ∀ (m167 : mR), Ty m167 → fr [7, 8, 9, 10, 11, 12, 13, 23, 24] [14, 15, 16, 17, 37, 38, 39, 40, 41, 42, 43] (mO m [] []) m167 → (∀ k, (m167.2 14) k + (m167.2 15) k ≤ 4000) → ((m.1 24) ≤ 15) → (0 ≤ (m.1 24) ∧ (m.1 24) ≤ 16) → (1 ≤ (m167.1 10)) → TT w D pm_240 (243, [(0, .ref 189), (3, .int (i32 (m.1 24)))], [], (mhp (mO m167 [] []) c, N), 0, 0) (Q_takeState m c N) := by
      intro m167 Tm167 Fm167 ic169 ic170 ic171 ic172
      have q173_7 : 0 ≤ m167.1 7 ∧ m167.1 7 ≤ 330 := Tm167.1 7
      have q173_8 : 0 ≤ m167.1 8 ∧ m167.1 8 ≤ 4000 := Tm167.1 8
      have q173_9 : 0 ≤ m167.1 9 ∧ m167.1 9 ≤ 4000 := Tm167.1 9
      have q173_10 : 0 ≤ m167.1 10 ∧ m167.1 10 ≤ 8 := Tm167.1 10
      have q173_11 : (-1) ≤ m167.1 11 ∧ m167.1 11 ≤ 4000 := Tm167.1 11
      have q173_13 : 0 ≤ m167.1 13 ∧ m167.1 13 ≤ 120 := Tm167.1 13
      have q173_23 : 0 ≤ m167.1 23 ∧ m167.1 23 ≤ 16 := Tm167.1 23
      have q173_24 : 0 ≤ m167.1 24 ∧ m167.1 24 ≤ 16 := Tm167.1 24
      have hNM := ic169
      refine T_ld 244 (.ref 189) rfl (fun _ => rfl) ?_
      refine T_ld 246 (.int (i32 123)) rfl (fun _ => rfl) ?_
      refine T_call 249 232 [.ref 189, .int (i32 123)] [] rfl (fun _ => rfl) rfl (d_need w (mO m167 [] []) c N D (by omega) Tm167 123 ⟨by decide, by decide⟩ (show 1 ≤ (123 : Int) by omega) (show LxP (m167.1 7) (m167.1 8) (m167.1 9) (m167.1 6) (m167.1 10) by rewrite [(show (m167.1 6) = (m.1 6) from (fr1 Fm167 6 rfl))]; first | exact hLx | (intro h9; exfalso; omega) | (intro h9; have h8 := hLx (by omega); omega))) (fun rr176 k177 => ?_)
      obtain ⟨m178, Tm178, Fm178, h179, h180, h181, h182, rfl⟩ := k177
      refine ⟨_, _, rfl, ?_⟩
      refine T_nb (st' := []) rfl ?_
      have g183 : 0 ≤ m178.1 7 ∧ m178.1 7 ≤ 330 := Tm178.1 7
      have g184 : 0 ≤ m178.1 8 ∧ m178.1 8 ≤ 4000 := Tm178.1 8
      have g185 : 0 ≤ m178.1 9 ∧ m178.1 9 ≤ 4000 := Tm178.1 9
      have g186 : 0 ≤ m178.1 10 ∧ m178.1 10 ≤ 8 := Tm178.1 10
      have g187 : (-1) ≤ m178.1 11 ∧ m178.1 11 ≤ 4000 := Tm178.1 11
      replace h179 : LxP (m178.1 7) (m178.1 8) (m178.1 9) (m167.1 6) (m178.1 10) := h179
      rewrite [(show (m167.1 6) = (m.1 6) from (fr1 Fm167 6 rfl))] at h179
      replace h180 : (m178.1 10) = 0 → (m167.1 10) = 0 ∧ (m167.1 7) = (123 : Int) := h180
      replace h181 : (m167.1 8) ≤ (m178.1 8) := h181
      replace h182 : (m178.1 10) = 0 → (m167.1 8) + (m167.1 9) ≤ (m178.1 8) := h182
      have hf188 : 1 ≤ (m178.1 10) := by omega
      clear h180
      clear h182
      have hLx := h179
      clear q173_7 q173_8 q173_9 q173_10 q173_11 ic172 h181
      exact J249_157 (mO m178 [] []) Tm178 (fr_m (fr_s Fm178 (fr_m (fr_s Fm167 (fr_m fr_0 rfl rfl) rfl rfl) rfl rfl) rfl rfl) rfl rfl) (show ∀ k, (m178.2 14) k + (m178.2 15) k ≤ 4000 by rewrite [(show (m178.2 14) = (m167.2 14) from (fr2 Fm178 14 rfl)), (show (m178.2 15) = (m167.2 15) from (fr2 Fm178 15 rfl))]; first | exact hNM | (intro k; rw [hE1, hE2]; have := hNM0 k; have h7 := hLx1; unfold upI; split <;> omega)) (show (m.1 24) ≤ 15 by omega) (show 0 ≤ (m.1 24) ∧ (m.1 24) ≤ 16 by omega) (show 1 ≤ (m178.1 10) by omega)
    have J140_191 : ∀ (v189 : Int) (m190 : mR), (R32 v189) → Ty m190 → fr [7, 8, 9, 10, 11, 12] [] (mO m [] []) m190 → ((-2147483648) ≤ v189) → (v189 ≤ 2147483647) → (∀ k, (m.2 14) k + (m.2 15) k ≤ 4000) → (0 ≤ (m.1 23) ∧ (m.1 23) ≤ 16) → (1 ≤ (m190.1 10)) → TT w D pm_240 (140, [(0, .ref 189), (1, .int (i32 v189)), (2, .int (i32 (m.1 23)))], [], (mhp (mO m190 [] []) c, N), 0, 0) (Q_takeState m c N) := by
      intro v189 m190 q197 Tm190 Fm190 ic192 ic193 ic194 ic195 ic196
      obtain ⟨q197a, q197b⟩ := id q197
      have q198_7 : 0 ≤ m190.1 7 ∧ m190.1 7 ≤ 330 := Tm190.1 7
      have q198_8 : 0 ≤ m190.1 8 ∧ m190.1 8 ≤ 4000 := Tm190.1 8
      have q198_9 : 0 ≤ m190.1 9 ∧ m190.1 9 ≤ 4000 := Tm190.1 9
      have q198_10 : 0 ≤ m190.1 10 ∧ m190.1 10 ≤ 8 := Tm190.1 10
      have q198_11 : (-1) ≤ m190.1 11 ∧ m190.1 11 ≤ 4000 := Tm190.1 11
      have hNM := ic194
      refine T_gf 144 (.int (i32 (m190.1 10))) rfl rfl rfl rfl rfl rfl ?_
      refine T_if 148 147 rfl rfl rfl (r32 (by omega) (by omega)) (fun (h201 : (m190.1 10) ≤ 0) => by exfalso; omega) (fun (h201 : ¬ ((m190.1 10) ≤ 0)) => ?_)
      refine T_ret rfl (fun _ => rfl) ?_
      exact ⟨(mO m190 [] []), Tm190, (fr_m (fr_s Fm190 (fr_m fr_0 rfl rfl) rfl rfl) rfl rfl), (show (m190.1 10) = 0 → (m.1 10) = 0 by omega), (show LxP (m190.1 7) (m190.1 8) (m190.1 9) (m.1 6) (m190.1 10) by first | (first | exact hLx | exact (fun _ => hLx (by omega)) | (intro h9; exfalso; omega)) | (exfalso; omega)), (show ∀ k, (m190.2 14) k + (m190.2 15) k ≤ 4000 by rewrite [(show (m190.2 14) = (m.2 14) from (fr2 Fm190 14 rfl)), (show (m190.2 15) = (m.2 15) from (fr2 Fm190 15 rfl))]; first | (first | exact hNM | (intro k; rw [hE1, hE2]; have := hNM k; have h7 := hLx0 hf0; unfold upI; split <;> omega)) | (exfalso; omega)), (fun (h : (m190.1 10) = 0) => absurd h (by omega)), rfl⟩
    have J84_205 : ∀ (v202 : Int) (v203 : Int) (m204 : mR), (R32 v202) → (R32 v203) → Ty m204 → fr [7, 8, 9, 10, 11, 12] [] (mO m [] []) m204 → (5 ≤ v202) → (v202 ≤ 5) → ((-2147483648) ≤ v203) → (v203 ≤ 2147483647) → (∀ k, (m.2 14) k + (m.2 15) k ≤ 4000) → (1 ≤ (m204.1 10)) → TT w D pm_240 (84, [(0, .ref 189), (1, .int (i32 v202)), (2, .int (i32 v203))], [], (mhp (mO m204 [] []) c, N), 0, 0) (Q_takeState m c N) := by
      intro v202 v203 m204 q212 q213 Tm204 Fm204 ic206 ic207 ic208 ic209 ic210 ic211
      obtain ⟨q212a, q212b⟩ := id q212
      obtain ⟨q213a, q213b⟩ := id q213
      have q214_7 : 0 ≤ m204.1 7 ∧ m204.1 7 ≤ 330 := Tm204.1 7
      have q214_8 : 0 ≤ m204.1 8 ∧ m204.1 8 ≤ 4000 := Tm204.1 8
      have q214_9 : 0 ≤ m204.1 9 ∧ m204.1 9 ≤ 4000 := Tm204.1 9
      have q214_10 : 0 ≤ m204.1 10 ∧ m204.1 10 ≤ 8 := Tm204.1 10
      have q214_11 : (-1) ≤ m204.1 11 ∧ m204.1 11 ≤ 4000 := Tm204.1 11
      have hNM := ic210
      refine T_goto 140 rfl (fun _ => rfl) ?_
      refine T_gf 144 (.int (i32 (m204.1 10))) rfl rfl rfl rfl rfl rfl ?_
      refine T_if 148 147 rfl rfl rfl (r32 (by omega) (by omega)) (fun (h217 : (m204.1 10) ≤ 0) => by exfalso; omega) (fun (h217 : ¬ ((m204.1 10) ≤ 0)) => ?_)
      refine T_ret rfl (fun _ => rfl) ?_
      exact ⟨(mO m204 [] []), Tm204, (fr_m (fr_s Fm204 (fr_m fr_0 rfl rfl) rfl rfl) rfl rfl), (show (m204.1 10) = 0 → (m.1 10) = 0 by omega), (show LxP (m204.1 7) (m204.1 8) (m204.1 9) (m.1 6) (m204.1 10) by first | (first | exact hLx | exact (fun _ => hLx (by omega)) | (intro h9; exfalso; omega)) | (exfalso; omega)), (show ∀ k, (m204.2 14) k + (m204.2 15) k ≤ 4000 by rewrite [(show (m204.2 14) = (m.2 14) from (fr2 Fm204 14 rfl)), (show (m204.2 15) = (m.2 15) from (fr2 Fm204 15 rfl))]; first | (first | exact hNM | (intro k; rw [hE1, hE2]; have := hNM k; have h7 := hLx0 hf0; unfold upI; split <;> omega)) | (exfalso; omega)), (fun (h : (m204.1 10) = 0) => absurd h (by omega)), rfl⟩
    refine T_ld 1 (.ref 189) rfl (fun _ => rfl) ?_
    refine T_call 4 212 [.ref 189] [] rfl (fun _ => rfl) rfl (d_next w (mO m [] []) c N D (by omega) hT (show (m.1 10) = 0 → (m.1 8) + (m.1 9) ≤ (m.1 6) by first | omega | (intro h9; have h8 := hLx h9; omega))) (fun rr218 k219 => ?_)
    obtain ⟨m220, Tm220, Fm220, h221, h222, h223, h224, rfl⟩ := k219
    refine ⟨_, _, rfl, ?_⟩
    refine T_nb (st' := []) rfl ?_
    have g225 : 0 ≤ m220.1 7 ∧ m220.1 7 ≤ 330 := Tm220.1 7
    have g226 : 0 ≤ m220.1 8 ∧ m220.1 8 ≤ 4000 := Tm220.1 8
    have g227 : 0 ≤ m220.1 9 ∧ m220.1 9 ≤ 4000 := Tm220.1 9
    have g228 : 0 ≤ m220.1 10 ∧ m220.1 10 ≤ 8 := Tm220.1 10
    have g229 : (-1) ≤ m220.1 11 ∧ m220.1 11 ≤ 4000 := Tm220.1 11
    by_cases hf230 : (m220.1 10) = 0
    · skip
      replace h221 : LxP (m220.1 7) (m220.1 8) (m220.1 9) (m.1 6) (m220.1 10) := h221
      have hLx := h221
      replace h222 : (m.1 10) = 0 := h222 hf230
      replace h223 : (m.1 8) ≤ (m220.1 8) := h223
      replace h224 : (m.1 8) + (m.1 9) ≤ (m220.1 8) := h224 hf230
      have u231 : (m.1 8) + 1 ≤ (m220.1 8) := by omega
      have u232 : (m.1 8) + 1 ≤ (m220.1 8) := by omega
      have u233 : (m.1 23) ≤ (m.1 23) := by omega
      have u234 : (m.1 28) ≤ (m.1 28) := by omega
      refine T_gf 8 (.int (i32 (m220.1 10))) rfl rfl rfl rfl rfl rfl ?_
      refine T_if 12 11 rfl rfl rfl (r32 (by omega) (by omega)) (fun (h235 : (m220.1 10) ≤ 0) => ?_) (fun (h235 : ¬ ((m220.1 10) ≤ 0)) => by exfalso; omega)
      refine T_gf 16 (.int (i32 (m220.1 7))) rfl rfl rfl rfl rfl rfl ?_
      refine T_ld 17 (.int (i32 1)) rfl (fun _ => rfl) ?_
      refine T_icmp 25 20 rfl rfl rfl (r32 (by omega) (by omega)) ⟨by decide, by decide⟩ (fun (h236 : (m220.1 7) = 1) => ?_) (fun (h236 : ¬ ((m220.1 7) = 1)) => ?_)
      · skip
        have hLx1 := hLx (by omega)
        refine T_ld 26 (.ref 189) rfl (fun _ => rfl) ?_
        refine T_call 29 227 [.ref 189] [] rfl (fun _ => rfl) rfl (d_sortHere w (mO m220 [] []) c N D (by omega) Tm220 (show 1 ≤ (m220.1 9) ∧ (m220.1 8) + (m220.1 9) ≤ (m220.1 6) by rewrite [(show (m220.1 6) = (m.1 6) from (fr1 Fm220 6 rfl))]; first | omega | (have h8 := hLx (by omega); omega)) (show ∀ k, (m220.2 14) k + (m220.2 15) k ≤ 4000 by rewrite [(show (m220.2 14) = (m.2 14) from (fr2 Fm220 14 rfl)), (show (m220.2 15) = (m.2 15) from (fr2 Fm220 15 rfl))]; first | exact hNM | exact p1)) (fun rr237 k238 => ?_)
        obtain ⟨so, g239, h240, h241, rfl⟩ := k238
        refine ⟨_, _, rfl, ?_⟩
        refine T_ns (st' := [.int (i32 so)]) rfl ?_
        obtain ⟨g239a, g239b⟩ := g239
        replace h240 : ∃ g k, isGH (m220.2 4) (m220.1 8) (m220.1 9) g ∧ (g < 0 → isFH (m220.2 4) (m220.2 14) (m220.2 15) (m220.1 8) (m220.1 9) (m220.1 13) k) ∧ so = sortV (m220.2 16) g k := h240
        rewrite [(show (m220.2 4) = (m.2 4) from (fr2 Fm220 4 rfl)), (show (m220.2 14) = (m.2 14) from (fr2 Fm220 14 rfl)), (show (m220.2 15) = (m.2 15) from (fr2 Fm220 15 rfl)), (show (m220.1 13) = (m.1 13) from (fr1 Fm220 13 rfl)), (show (m220.2 16) = (m.2 16) from (fr2 Fm220 16 rfl))] at h240
        have hSo := h240
        replace h241 : -1 ≤ so ∧ so ≤ 7 := h241
        have u242 : (m.1 8) + 1 ≤ (m220.1 8) := by omega
        have u243 : (m.1 8) + 1 ≤ (m220.1 8) := by omega
        have u244 : (m.1 23) ≤ (m.1 23) := by omega
        have u245 : (m.1 28) ≤ (m.1 28) := by omega
        refine T_sto 30 [(1, .int (i32 so)), (0, .ref 189)] rfl (fun _ => rfl) ?_
        refine T_gf 34 (.int (i32 (m.1 23))) rfl rfl rfl rfl (mfv_c (F := fun x => .int (i32 x)) rfl (show (m220.1 23) = (m.1 23) from (fr1 Fm220 23 rfl))) rfl ?_
        refine T_sto 35 [(2, .int (i32 (m.1 23))), (1, .int (i32 so)), (0, .ref 189)] rfl (fun _ => rfl) ?_
        have J179_248 : ∀ (v246 : Int) (m247 : mR), (R32 v246) → Ty m247 → fr [10, 11, 13, 23] [14, 15, 16, 17, 37] (mO m220 [] []) m247 → ((m247.1 10) = 0) → (∀ k, (m247.2 14) k + (m247.2 15) k ≤ 4000) → (SOp (upI (m.2 38) v246 (m.1 24)) (m247.1 23) ((m.1 24) + 1)) → (PN (m247.1 13) (m.1 19) (m.1 20) (m.1 21) (m.1 22) (m247.1 23) (m.1 25) (m.1 26) (m247.2 16) (m247.2 17)) → (0 ≤ v246 ∧ v246 ≤ 15) → ((m.1 24) ≤ 15) → ((m.1 23) ≤ (m247.1 23)) → TT w D pm_240 (179, [(0, .ref 189), (1, .int (i32 so)), (2, .int (i32 v246))], [], (mhp (mO m247 [] []) c, N), 0, 0) (Q_takeState m c N) := by
          intro v246 m247 q256 Tm247 Fm247 ic249 ic250 ic251 ic252 ic253 ic254 ic255
          obtain ⟨q256a, q256b⟩ := id q256
          have q257_10 : 0 ≤ m247.1 10 ∧ m247.1 10 ≤ 8 := Tm247.1 10
          have q257_11 : (-1) ≤ m247.1 11 ∧ m247.1 11 ≤ 4000 := Tm247.1 11
          have q257_13 : 0 ≤ m247.1 13 ∧ m247.1 13 ≤ 120 := Tm247.1 13
          have q257_23 : 0 ≤ m247.1 23 ∧ m247.1 23 ≤ 16 := Tm247.1 23
          have hNM := ic250
          have pSO1 := ic251
          have pPN1 := ic252
          refine T_gf 183 (.int (i32 (m.1 24))) rfl rfl rfl rfl (mfv_c (F := fun x => .int (i32 x)) rfl (show (m247.1 24) = (m.1 24) from ((fr1 Fm247 24 rfl).trans (fr1 Fm220 24 rfl)))) rfl ?_
          refine T_sto 184 [(3, .int (i32 (m.1 24))), (0, .ref 189), (1, .int (i32 so)), (2, .int (i32 v246))] rfl (fun _ => rfl) ?_
          refine T_ld 185 (.ref 189) rfl (fun _ => rfl) ?_
          refine T_ld 186 (.ref 189) rfl (fun _ => rfl) ?_
          refine T_gf1 189 (.int (i32 (m.1 24))) rfl rfl (mfv_c (F := fun x => .int (i32 x)) rfl (show (m247.1 24) = (m.1 24) from ((fr1 Fm247 24 rfl).trans (fr1 Fm220 24 rfl)))) rfl ?_
          refine T_ld 190 (.int (i32 1)) rfl (fun _ => rfl) ?_
          refine T_iadd 191 rfl rfl ?_
          refine T_pf (l' := [(24, (m.1 24) + 1)]) 194 ((m.1 24) + 1) rfl rfl rfl rfl rfl rfl ?_
          have g260 : 0 ≤ (m.1 24) + 1 ∧ (m.1 24) + 1 ≤ 16 := ⟨by omega, by omega⟩
          refine T_gf 198 (.ref 208) rfl rfl rfl rfl rfl rfl ?_
          refine T_ld 199 (.int (i32 v246)) rfl (fun _ => rfl) ?_
          refine T_ld 200 (.int (i32 (m.1 24))) rfl (fun _ => rfl) ?_
          have G261 : ∀ j, (-1) ≤ (upI (m.2 38) v246 (m.1 24)) j ∧ (upI (m.2 38) v246 (m.1 24)) j ≤ 15 := upI_rg (hT.2.1 38) ⟨by omega, by omega⟩
          refine T_iast (a' := [(38, upI (m.2 38) v246 (m.1 24))]) 201 38 (m.2 38) rfl rfl rfl (by omega) (show v246 < (16 : Int) by omega) (show (m247.2 38) = (m.2 38) from ((fr2 Fm247 38 rfl).trans (fr2 Fm220 38 rfl))) rfl ?_
          refine T_gf 205 (.ref 209) rfl rfl rfl rfl rfl rfl ?_
          refine T_ld 206 (.int (i32 (m.1 24))) rfl (fun _ => rfl) ?_
          refine T_ld 207 (.int (i32 v246)) rfl (fun _ => rfl) ?_
          have G262 : ∀ j, 0 ≤ (upI (m.2 39) (m.1 24) v246) j ∧ (upI (m.2 39) (m.1 24) v246) j ≤ 15 := upI_rg (hT.2.1 39) ⟨by omega, by omega⟩
          refine T_iast (a' := [(38, upI (m.2 38) v246 (m.1 24)), (39, upI (m.2 39) (m.1 24) v246)]) 208 39 (m.2 39) rfl rfl rfl (by omega) (show (m.1 24) < (16 : Int) by omega) (show (m247.2 39) = (m.2 39) from ((fr2 Fm247 39 rfl).trans (fr2 Fm220 39 rfl))) rfl ?_
          refine T_gf 212 (.ref 210) rfl rfl rfl rfl rfl rfl ?_
          refine T_ld 213 (.int (i32 (m.1 24))) rfl (fun _ => rfl) ?_
          refine T_gf 217 (.int (i32 (m220.1 8))) rfl rfl rfl rfl (mfv_c (F := fun x => .int (i32 x)) rfl (show (m247.1 8) = (m220.1 8) from (fr1 Fm247 8 rfl))) rfl ?_
          have G263 : ∀ j, 0 ≤ (upI (m.2 40) (m.1 24) (m220.1 8)) j ∧ (upI (m.2 40) (m.1 24) (m220.1 8)) j ≤ 4000 := upI_rg (hT.2.1 40) ⟨by omega, by omega⟩
          refine T_iast (a' := [(38, upI (m.2 38) v246 (m.1 24)), (39, upI (m.2 39) (m.1 24) v246), (40, upI (m.2 40) (m.1 24) (m220.1 8))]) 218 40 (m.2 40) rfl rfl rfl (by omega) (show (m.1 24) < (16 : Int) by omega) (show (m247.2 40) = (m.2 40) from ((fr2 Fm247 40 rfl).trans (fr2 Fm220 40 rfl))) rfl ?_
          refine T_gf 222 (.ref 211) rfl rfl rfl rfl rfl rfl ?_
          refine T_ld 223 (.int (i32 (m.1 24))) rfl (fun _ => rfl) ?_
          refine T_ld 224 (.int (i32 0)) rfl (fun _ => rfl) ?_
          have G264 : ∀ j, 0 ≤ (upI (m.2 41) (m.1 24) 0) j ∧ (upI (m.2 41) (m.1 24) 0) j ≤ 6 := upI_rg (hT.2.1 41) ⟨by omega, by omega⟩
          refine T_iast (a' := [(38, upI (m.2 38) v246 (m.1 24)), (39, upI (m.2 39) (m.1 24) v246), (40, upI (m.2 40) (m.1 24) (m220.1 8)), (41, upI (m.2 41) (m.1 24) 0)]) 225 41 (m.2 41) rfl rfl rfl (by omega) (show (m.1 24) < (16 : Int) by omega) (show (m247.2 41) = (m.2 41) from ((fr2 Fm247 41 rfl).trans (fr2 Fm220 41 rfl))) rfl ?_
          refine T_gf 229 (.ref 212) rfl rfl rfl rfl rfl rfl ?_
          refine T_ld 230 (.int (i32 (m.1 24))) rfl (fun _ => rfl) ?_
          refine T_ld 231 (.int (i32 0)) rfl (fun _ => rfl) ?_
          have G265 : ∀ j, 0 ≤ (upI (m.2 42) (m.1 24) 0) j ∧ (upI (m.2 42) (m.1 24) 0) j ≤ 8 := upI_rg (hT.2.1 42) ⟨by omega, by omega⟩
          refine T_iast (a' := [(38, upI (m.2 38) v246 (m.1 24)), (39, upI (m.2 39) (m.1 24) v246), (40, upI (m.2 40) (m.1 24) (m220.1 8)), (41, upI (m.2 41) (m.1 24) 0), (42, upI (m.2 42) (m.1 24) 0)]) 232 42 (m.2 42) rfl rfl rfl (by omega) (show (m.1 24) < (16 : Int) by omega) (show (m247.2 42) = (m.2 42) from ((fr2 Fm247 42 rfl).trans (fr2 Fm220 42 rfl))) rfl ?_
          refine T_gf 236 (.ref 213) rfl rfl rfl rfl rfl rfl ?_
          refine T_ld 237 (.int (i32 (m.1 24))) rfl (fun _ => rfl) ?_
          refine T_ld 238 (.int (i32 0)) rfl (fun _ => rfl) ?_
          have G266 : ∀ j, 0 ≤ (upI (m.2 43) (m.1 24) 0) j ∧ (upI (m.2 43) (m.1 24) 0) j ≤ 1024 := upI_rg (hT.2.1 43) ⟨by omega, by omega⟩
          refine T_iast (a' := [(38, upI (m.2 38) v246 (m.1 24)), (39, upI (m.2 39) (m.1 24) v246), (40, upI (m.2 40) (m.1 24) (m220.1 8)), (41, upI (m.2 41) (m.1 24) 0), (42, upI (m.2 42) (m.1 24) 0), (43, upI (m.2 43) (m.1 24) 0)]) 239 43 (m.2 43) rfl rfl rfl (by omega) (show (m.1 24) < (16 : Int) by omega) (show (m247.2 43) = (m.2 43) from ((fr2 Fm247 43 rfl).trans (fr2 Fm220 43 rfl))) rfl ?_
          refine T_ld 240 (.ref 189) rfl (fun _ => rfl) ?_
          have pSO := pSO1
          have pPN := pPN1
          refine T_call 243 212 [.ref 189] [] rfl (fun _ => rfl) rfl (d_next w (mO m247 [(24, (m.1 24) + 1)] [(38, upI (m.2 38) v246 (m.1 24)), (39, upI (m.2 39) (m.1 24) v246), (40, upI (m.2 40) (m.1 24) (m220.1 8)), (41, upI (m.2 41) (m.1 24) 0), (42, upI (m.2 42) (m.1 24) 0), (43, upI (m.2 43) (m.1 24) 0)]) c N D (by omega) (Ty_mO Tm247 rfl rfl ⟨g260, trivial⟩ ⟨G261, G262, G263, G264, G265, G266, trivial⟩) (show (m247.1 10) = 0 → (m247.1 8) + (m247.1 9) ≤ (m247.1 6) by rewrite [(show (m247.1 8) = (m220.1 8) from (fr1 Fm247 8 rfl)), (show (m247.1 9) = (m220.1 9) from (fr1 Fm247 9 rfl)), (show (m247.1 6) = (m.1 6) from ((fr1 Fm247 6 rfl).trans (fr1 Fm220 6 rfl)))]; first | omega | (intro h9; have h8 := hLx h9; omega))) (fun rr267 k268 => ?_)
          obtain ⟨m269, Tm269, Fm269, h270, h271, h272, h273, rfl⟩ := k268
          refine ⟨_, _, rfl, ?_⟩
          refine T_nb (st' := []) rfl ?_
          have g274 : 0 ≤ m269.1 7 ∧ m269.1 7 ≤ 330 := Tm269.1 7
          have g275 : 0 ≤ m269.1 8 ∧ m269.1 8 ≤ 4000 := Tm269.1 8
          have g276 : 0 ≤ m269.1 9 ∧ m269.1 9 ≤ 4000 := Tm269.1 9
          have g277 : 0 ≤ m269.1 10 ∧ m269.1 10 ≤ 8 := Tm269.1 10
          have g278 : (-1) ≤ m269.1 11 ∧ m269.1 11 ≤ 4000 := Tm269.1 11
          by_cases hf279 : (m269.1 10) = 0
          · skip
            replace h270 : LxP (m269.1 7) (m269.1 8) (m269.1 9) (m247.1 6) (m269.1 10) := h270
            rewrite [(show (m247.1 6) = (m.1 6) from ((fr1 Fm247 6 rfl).trans (fr1 Fm220 6 rfl)))] at h270
            have hLx := h270
            replace h271 : (m247.1 10) = 0 := h271 hf279
            replace h272 : (m247.1 8) ≤ (m269.1 8) := h272
            rewrite [(show (m247.1 8) = (m220.1 8) from (fr1 Fm247 8 rfl))] at h272
            replace h273 : (m247.1 8) + (m247.1 9) ≤ (m269.1 8) := h273 hf279
            rewrite [(show (m247.1 8) = (m220.1 8) from (fr1 Fm247 8 rfl)), (show (m247.1 9) = (m220.1 9) from (fr1 Fm247 9 rfl))] at h273
            have u280 : (m.1 8) + 1 ≤ (m269.1 8) := by omega
            have u281 : (m.1 8) + 1 ≤ (m269.1 8) := by omega
            have u282 : (m.1 23) ≤ (m247.1 23) := by omega
            have u283 : (m.1 28) ≤ (m.1 28) := by omega
            clear g225 g227 g228 g229 h221 h235 h236 h240 q257_10 q257_11 ic249 h271 h273
            refine T_ld 244 (.ref 189) rfl (fun _ => rfl) ?_
            refine T_ld 246 (.int (i32 123)) rfl (fun _ => rfl) ?_
            refine T_call 249 232 [.ref 189, .int (i32 123)] [] rfl (fun _ => rfl) rfl (d_need w (mO m269 [] []) c N D (by omega) Tm269 123 ⟨by decide, by decide⟩ (show 1 ≤ (123 : Int) by omega) (show LxP (m269.1 7) (m269.1 8) (m269.1 9) (m269.1 6) (m269.1 10) by rewrite [(show (m269.1 6) = (m.1 6) from ((fr1 Fm269 6 rfl).trans ((fr1 Fm247 6 rfl).trans (fr1 Fm220 6 rfl))))]; first | exact hLx | (intro h9; exfalso; omega) | (intro h9; have h8 := hLx (by omega); omega))) (fun rr284 k285 => ?_)
            obtain ⟨m286, Tm286, Fm286, h287, h288, h289, h290, rfl⟩ := k285
            refine ⟨_, _, rfl, ?_⟩
            refine T_nb (st' := []) rfl ?_
            have g291 : 0 ≤ m286.1 7 ∧ m286.1 7 ≤ 330 := Tm286.1 7
            have g292 : 0 ≤ m286.1 8 ∧ m286.1 8 ≤ 4000 := Tm286.1 8
            have g293 : 0 ≤ m286.1 9 ∧ m286.1 9 ≤ 4000 := Tm286.1 9
            have g294 : 0 ≤ m286.1 10 ∧ m286.1 10 ≤ 8 := Tm286.1 10
            have g295 : (-1) ≤ m286.1 11 ∧ m286.1 11 ≤ 4000 := Tm286.1 11
            by_cases hf296 : (m286.1 10) = 0
            · skip
              replace h287 : LxP (m286.1 7) (m286.1 8) (m286.1 9) (m269.1 6) (m286.1 10) := h287
              rewrite [(show (m269.1 6) = (m.1 6) from ((fr1 Fm269 6 rfl).trans ((fr1 Fm247 6 rfl).trans (fr1 Fm220 6 rfl))))] at h287
              have hLx := h287
              replace h288 : (m269.1 10) = 0 ∧ (m269.1 7) = (123 : Int) := h288 hf296
              replace h289 : (m269.1 8) ≤ (m286.1 8) := h289
              replace h290 : (m269.1 8) + (m269.1 9) ≤ (m286.1 8) := h290 hf296
              have u297 : (m.1 8) + 1 ≤ (m286.1 8) := by omega
              have u298 : (m.1 8) + 1 ≤ (m286.1 8) := by omega
              have u299 : (m.1 23) ≤ (m247.1 23) := by omega
              have u300 : (m.1 28) ≤ (m.1 28) := by omega
              clear g274 g275 g276 g277 g278 h270 h272 u280 u281 h288 h289 h290
              have L249_302 : ∀ (n306 : Nat) (m301 : mR), Ty m301 → fr [7, 8, 9, 10, 11, 12] [41, 94] (mO m286 [] []) m301 → (LxP (m301.1 7) (m301.1 8) (m301.1 9) (m.1 6) (m301.1 10)) → ((m301.1 10) = 0 → ((m.1 8) + 1 ≤ (m301.1 8))) → 1000000 * (8 - (m301.1 10)) + (4000 - (m301.1 8)) < (n306 : Int) → TT w D pm_240 (249, [(0, .ref 189), (1, .int (i32 so)), (2, .int (i32 v246)), (3, .int (i32 (m.1 24)))], [], (mhp (mO m301 [] []) c, N), 0, 0) (Q_takeState m c N) := by
                intro n306
                induction n306 with
                | zero =>
                  intro m301 Tm301 Fm301 ic303 c305 hmu
                  have q304_7 : 0 ≤ m301.1 7 ∧ m301.1 7 ≤ 330 := Tm301.1 7
                  have q304_8 : 0 ≤ m301.1 8 ∧ m301.1 8 ≤ 4000 := Tm301.1 8
                  have q304_9 : 0 ≤ m301.1 9 ∧ m301.1 9 ≤ 4000 := Tm301.1 9
                  have q304_10 : 0 ≤ m301.1 10 ∧ m301.1 10 ≤ 8 := Tm301.1 10
                  have q304_11 : (-1) ≤ m301.1 11 ∧ m301.1 11 ≤ 4000 := Tm301.1 11
                  have hLx := ic303
                  exfalso
                  omega
                | succ n306 ih =>
                  intro m301 Tm301 Fm301 ic303 c305 hmu
                  have q304_7 : 0 ≤ m301.1 7 ∧ m301.1 7 ≤ 330 := Tm301.1 7
                  have q304_8 : 0 ≤ m301.1 8 ∧ m301.1 8 ≤ 4000 := Tm301.1 8
                  have q304_9 : 0 ≤ m301.1 9 ∧ m301.1 9 ≤ 4000 := Tm301.1 9
                  have q304_10 : 0 ≤ m301.1 10 ∧ m301.1 10 ≤ 8 := Tm301.1 10
                  have q304_11 : (-1) ≤ m301.1 11 ∧ m301.1 11 ≤ 4000 := Tm301.1 11
                  have hLx := ic303
                  have ih307 := ih
                  by_cases hf308 : (m301.1 10) = 0
                  · skip
                    have c309 := c305 hf308
                    clear c305
                    refine T_gf 253 (.int (i32 (m301.1 10))) rfl rfl rfl rfl rfl rfl ?_
                    refine T_if 274 256 rfl rfl rfl (r32 (by omega) (by omega)) (fun (h310 : (m301.1 10) ≠ 0) => by exfalso; omega) (fun (h310 : ¬ ((m301.1 10) ≠ 0)) => ?_)
                    refine T_gf 260 (.int (i32 (m301.1 7))) rfl rfl rfl rfl rfl rfl ?_
                    refine T_ld 263 (.int (i32 305)) rfl (fun _ => rfl) ?_
                    refine T_icmp 274 266 rfl rfl rfl (r32 (by omega) (by omega)) ⟨by decide, by decide⟩ (fun (h311 : (m301.1 7) ≠ 305) => ?_) (fun (h311 : ¬ ((m301.1 7) ≠ 305)) => ?_)
                    · skip
                      refine T_gf 278 (.int (i32 (m301.1 10))) rfl rfl rfl rfl rfl rfl ?_
                      refine T_if 282 281 rfl rfl rfl (r32 (by omega) (by omega)) (fun (h312 : (m301.1 10) ≤ 0) => ?_) (fun (h312 : ¬ ((m301.1 10) ≤ 0)) => by exfalso; omega)
                      refine T_gf 286 (.int (i32 (m301.1 7))) rfl rfl rfl rfl rfl rfl ?_
                      refine T_ld 289 (.int (i32 306)) rfl (fun _ => rfl) ?_
                      refine T_icmp 315 292 rfl rfl rfl (r32 (by omega) (by omega)) ⟨by decide, by decide⟩ (fun (h313 : (m301.1 7) ≠ 306) => ?_) (fun (h313 : ¬ ((m301.1 7) ≠ 306)) => ?_)
                      · skip
                        refine T_gf 319 (.int (i32 (m301.1 7))) rfl rfl rfl rfl rfl rfl ?_
                        refine T_ld 322 (.int (i32 307)) rfl (fun _ => rfl) ?_
                        refine T_icmp 333 325 rfl rfl rfl (r32 (by omega) (by omega)) ⟨by decide, by decide⟩ (fun (h314 : (m301.1 7) ≠ 307) => ?_) (fun (h314 : ¬ ((m301.1 7) ≠ 307)) => ?_)
                        · skip
                          refine T_ld 334 (.ref 189) rfl (fun _ => rfl) ?_
                          refine T_call 337 226 [.ref 189] [] rfl (fun _ => rfl) rfl (d_bad w (mO m301 [] []) c N D (by omega) Tm301 ) (fun rr315 k316 => ?_)
                          obtain ⟨m317, Tm317, Fm317, h318, rfl⟩ := k316
                          refine ⟨_, _, rfl, ?_⟩
                          refine T_nb (st' := []) rfl ?_
                          have g319 : 0 ≤ m317.1 10 ∧ m317.1 10 ≤ 8 := Tm317.1 10
                          have g320 : (-1) ≤ m317.1 11 ∧ m317.1 11 ≤ 4000 := Tm317.1 11
                          replace h318 : (0 < (m301.1 10) → (m317.1 10) = (m301.1 10) ∧ (m317.1 11) = (m301.1 11)) ∧ ((m301.1 10) ≤ 0 → (m317.1 10) = 1 ∧ (m317.1 11) = (m301.1 8)) := h318
                          have hf321 : 1 ≤ (m317.1 10) := by omega
                          clear g291 g292 g293 g294 g295 h287 u297 u298 q304_11 h318
                          refine Tm_lv (a := [(0, .ref 189)]) rfl rfl ⟨rfl, trivial⟩ ?_
                          exact J337_30 (mO m317 [] []) Tm317 (fr_m (fr_s Fm317 (fr_m (fr_s Fm301 (fr_m (fr_s Fm286 (fr_m (fr_s Fm269 (fr_m (fr_s Fm247 (fr_m (fr_s Fm220 (fr_m fr_0 rfl rfl) rfl rfl) rfl rfl) rfl rfl) rfl rfl) rfl rfl) rfl rfl) rfl rfl) rfl rfl) rfl rfl) rfl rfl) rfl rfl) rfl rfl) (show ∀ k, (m317.2 14) k + (m317.2 15) k ≤ 4000 by rewrite [(show (m317.2 14) = (m247.2 14) from ((fr2 Fm317 14 rfl).trans ((fr2 Fm301 14 rfl).trans ((fr2 Fm286 14 rfl).trans (fr2 Fm269 14 rfl))))), (show (m317.2 15) = (m247.2 15) from ((fr2 Fm317 15 rfl).trans ((fr2 Fm301 15 rfl).trans ((fr2 Fm286 15 rfl).trans (fr2 Fm269 15 rfl)))))]; first | exact hNM | (intro k; rw [hE1, hE2]; have := hNM0 k; have h7 := hLx1; unfold upI; split <;> omega)) (show (m.1 24) ≤ 15 by omega) (show 1 ≤ (m317.1 10) by omega)
                        · skip
                          refine T_ld 326 (.ref 189) rfl (fun _ => rfl) ?_
                          refine T_ld 327 (.int (i32 (m.1 24))) rfl (fun _ => rfl) ?_
                          refine T_call 330 243 [.ref 189, .int (i32 (m.1 24))] [] rfl (fun _ => rfl) rfl (c_takeSelect w (mO m301 [] []) c N D (by omega) Tm301 (m.1 24) (r32 (by omega) (by omega)) (show LxP (m301.1 7) (m301.1 8) (m301.1 9) (m301.1 6) (m301.1 10) by rewrite [(show (m301.1 6) = (m.1 6) from ((fr1 Fm301 6 rfl).trans ((fr1 Fm286 6 rfl).trans ((fr1 Fm269 6 rfl).trans ((fr1 Fm247 6 rfl).trans (fr1 Fm220 6 rfl))))))]; first | exact hLx | exact (fun _ => hLx (by omega)) | (intro h9; exfalso; omega)) (show ∀ k, (m301.2 14) k + (m301.2 15) k ≤ 4000 by rewrite [(show (m301.2 14) = (m247.2 14) from ((fr2 Fm301 14 rfl).trans ((fr2 Fm286 14 rfl).trans (fr2 Fm269 14 rfl)))), (show (m301.2 15) = (m247.2 15) from ((fr2 Fm301 15 rfl).trans ((fr2 Fm286 15 rfl).trans (fr2 Fm269 15 rfl))))]; assumption) (show ∀ k, (m301.2 31) k + (m301.2 32) k ≤ 4000 by rewrite [(show (m301.2 31) = (m.2 31) from ((fr2 Fm301 31 rfl).trans ((fr2 Fm286 31 rfl).trans ((fr2 Fm269 31 rfl).trans ((fr2 Fm247 31 rfl).trans (fr2 Fm220 31 rfl)))))), (show (m301.2 32) = (m.2 32) from ((fr2 Fm301 32 rfl).trans ((fr2 Fm286 32 rfl).trans ((fr2 Fm269 32 rfl).trans ((fr2 Fm247 32 rfl).trans (fr2 Fm220 32 rfl))))))]; assumption) (show ∀ k, (m301.2 47) k + (m301.2 48) k ≤ 4000 by rewrite [(show (m301.2 47) = (m.2 47) from ((fr2 Fm301 47 rfl).trans ((fr2 Fm286 47 rfl).trans ((fr2 Fm269 47 rfl).trans ((fr2 Fm247 47 rfl).trans (fr2 Fm220 47 rfl)))))), (show (m301.2 48) = (m.2 48) from ((fr2 Fm301 48 rfl).trans ((fr2 Fm286 48 rfl).trans ((fr2 Fm269 48 rfl).trans ((fr2 Fm247 48 rfl).trans (fr2 Fm220 48 rfl))))))]; assumption) (show 0 ≤ (m.1 24) ∧ (m.1 24) ≤ 15 by omega) (fun _ => ⟨(show PN (m301.1 13) (m301.1 19) (m301.1 20) (m301.1 21) (m301.1 22) (m301.1 23) (m301.1 25) (m301.1 26) (m301.2 16) (m301.2 17) by rewrite [(show (m301.1 13) = (m247.1 13) from ((fr1 Fm301 13 rfl).trans ((fr1 Fm286 13 rfl).trans (fr1 Fm269 13 rfl)))), (show (m301.1 19) = (m.1 19) from ((fr1 Fm301 19 rfl).trans ((fr1 Fm286 19 rfl).trans ((fr1 Fm269 19 rfl).trans ((fr1 Fm247 19 rfl).trans (fr1 Fm220 19 rfl)))))), (show (m301.1 20) = (m.1 20) from ((fr1 Fm301 20 rfl).trans ((fr1 Fm286 20 rfl).trans ((fr1 Fm269 20 rfl).trans ((fr1 Fm247 20 rfl).trans (fr1 Fm220 20 rfl)))))), (show (m301.1 21) = (m.1 21) from ((fr1 Fm301 21 rfl).trans ((fr1 Fm286 21 rfl).trans ((fr1 Fm269 21 rfl).trans ((fr1 Fm247 21 rfl).trans (fr1 Fm220 21 rfl)))))), (show (m301.1 22) = (m.1 22) from ((fr1 Fm301 22 rfl).trans ((fr1 Fm286 22 rfl).trans ((fr1 Fm269 22 rfl).trans ((fr1 Fm247 22 rfl).trans (fr1 Fm220 22 rfl)))))), (show (m301.1 23) = (m247.1 23) from ((fr1 Fm301 23 rfl).trans ((fr1 Fm286 23 rfl).trans (fr1 Fm269 23 rfl)))), (show (m301.1 25) = (m.1 25) from ((fr1 Fm301 25 rfl).trans ((fr1 Fm286 25 rfl).trans ((fr1 Fm269 25 rfl).trans ((fr1 Fm247 25 rfl).trans (fr1 Fm220 25 rfl)))))), (show (m301.1 26) = (m.1 26) from ((fr1 Fm301 26 rfl).trans ((fr1 Fm286 26 rfl).trans ((fr1 Fm269 26 rfl).trans ((fr1 Fm247 26 rfl).trans (fr1 Fm220 26 rfl)))))), (show (m301.2 16) = (m247.2 16) from ((fr2 Fm301 16 rfl).trans ((fr2 Fm286 16 rfl).trans (fr2 Fm269 16 rfl)))), (show (m301.2 17) = (m247.2 17) from ((fr2 Fm301 17 rfl).trans ((fr2 Fm286 17 rfl).trans (fr2 Fm269 17 rfl))))]; assumption), (show CN (m301.2 65) (m301.2 67) (m301.1 28) by rewrite [(show (m301.2 65) = (m.2 65) from ((fr2 Fm301 65 rfl).trans ((fr2 Fm286 65 rfl).trans ((fr2 Fm269 65 rfl).trans ((fr2 Fm247 65 rfl).trans (fr2 Fm220 65 rfl)))))), (show (m301.2 67) = (m.2 67) from ((fr2 Fm301 67 rfl).trans ((fr2 Fm286 67 rfl).trans ((fr2 Fm269 67 rfl).trans ((fr2 Fm247 67 rfl).trans (fr2 Fm220 67 rfl)))))), (show (m301.1 28) = (m.1 28) from ((fr1 Fm301 28 rfl).trans ((fr1 Fm286 28 rfl).trans ((fr1 Fm269 28 rfl).trans ((fr1 Fm247 28 rfl).trans (fr1 Fm220 28 rfl))))))]; assumption), (show SOp (m301.2 38) (m301.1 23) (m301.1 24) by rewrite [(show (m301.2 38) = (upI (m.2 38) v246 (m.1 24)) from ((fr2 Fm301 38 rfl).trans ((fr2 Fm286 38 rfl).trans (fr2 Fm269 38 rfl)))), (show (m301.1 23) = (m247.1 23) from ((fr1 Fm301 23 rfl).trans ((fr1 Fm286 23 rfl).trans (fr1 Fm269 23 rfl)))), (show (m301.1 24) = ((m.1 24) + 1) from ((fr1 Fm301 24 rfl).trans ((fr1 Fm286 24 rfl).trans (fr1 Fm269 24 rfl))))]; first | exact pSO | assumption), (show (m301.2 42) (m.1 24) = 0 by rewrite [(show (m301.2 42) = (upI (m.2 42) (m.1 24) 0) from ((fr2 Fm301 42 rfl).trans ((fr2 Fm286 42 rfl).trans (fr2 Fm269 42 rfl))))]; first | omega | exact upI_s), (show (m301.1 7) ≠ 0 by omega)⟩)) (fun rr322 k323 => ?_)
                          obtain ⟨m324, Tm324, Fm324, h325, h326, h327, c328, rfl⟩ := k323
                          refine ⟨_, _, rfl, ?_⟩
                          refine T_nb (st' := []) rfl ?_
                          have g329 : 0 ≤ m324.1 7 ∧ m324.1 7 ≤ 330 := Tm324.1 7
                          have g330 : 0 ≤ m324.1 8 ∧ m324.1 8 ≤ 4000 := Tm324.1 8
                          have g331 : 0 ≤ m324.1 9 ∧ m324.1 9 ≤ 4000 := Tm324.1 9
                          have g332 : 0 ≤ m324.1 10 ∧ m324.1 10 ≤ 8 := Tm324.1 10
                          have g333 : (-1) ≤ m324.1 11 ∧ m324.1 11 ≤ 4000 := Tm324.1 11
                          have g334 : 0 ≤ m324.1 13 ∧ m324.1 13 ≤ 120 := Tm324.1 13
                          have g335 : 0 ≤ m324.1 23 ∧ m324.1 23 ≤ 16 := Tm324.1 23
                          have g336 : 0 ≤ m324.1 28 ∧ m324.1 28 ≤ 800 := Tm324.1 28
                          by_cases hf337 : (m324.1 10) = 0
                          · skip
                            replace h325 : (m301.1 10) = 0 := h325 hf337
                            replace h326 : LxP (m324.1 7) (m324.1 8) (m324.1 9) (m301.1 6) (m324.1 10) := h326
                            rewrite [(show (m301.1 6) = (m.1 6) from ((fr1 Fm301 6 rfl).trans ((fr1 Fm286 6 rfl).trans ((fr1 Fm269 6 rfl).trans ((fr1 Fm247 6 rfl).trans (fr1 Fm220 6 rfl))))))] at h326
                            have hLx := h326
                            replace h327 : ∀ k, (m324.2 14) k + (m324.2 15) k ≤ 4000 := h327
                            have hNM := h327
                            obtain ⟨c338, c339, c340, c341, c342, c343, c344, c345, c346, c347, c348, c349, c350⟩ := c328 hf337
                            replace c338 : (m301.1 8) + 1 ≤ (m324.1 8) := c338
                            replace c339 : PN (m324.1 13) (m301.1 19) (m301.1 20) (m301.1 21) (m301.1 22) (m324.1 23) (m301.1 25) (m301.1 26) (m324.2 16) (m324.2 17) := c339
                            rewrite [(show (m301.1 19) = (m.1 19) from ((fr1 Fm301 19 rfl).trans ((fr1 Fm286 19 rfl).trans ((fr1 Fm269 19 rfl).trans ((fr1 Fm247 19 rfl).trans (fr1 Fm220 19 rfl)))))), (show (m301.1 20) = (m.1 20) from ((fr1 Fm301 20 rfl).trans ((fr1 Fm286 20 rfl).trans ((fr1 Fm269 20 rfl).trans ((fr1 Fm247 20 rfl).trans (fr1 Fm220 20 rfl)))))), (show (m301.1 21) = (m.1 21) from ((fr1 Fm301 21 rfl).trans ((fr1 Fm286 21 rfl).trans ((fr1 Fm269 21 rfl).trans ((fr1 Fm247 21 rfl).trans (fr1 Fm220 21 rfl)))))), (show (m301.1 22) = (m.1 22) from ((fr1 Fm301 22 rfl).trans ((fr1 Fm286 22 rfl).trans ((fr1 Fm269 22 rfl).trans ((fr1 Fm247 22 rfl).trans (fr1 Fm220 22 rfl)))))), (show (m301.1 25) = (m.1 25) from ((fr1 Fm301 25 rfl).trans ((fr1 Fm286 25 rfl).trans ((fr1 Fm269 25 rfl).trans ((fr1 Fm247 25 rfl).trans (fr1 Fm220 25 rfl)))))), (show (m301.1 26) = (m.1 26) from ((fr1 Fm301 26 rfl).trans ((fr1 Fm286 26 rfl).trans ((fr1 Fm269 26 rfl).trans ((fr1 Fm247 26 rfl).trans (fr1 Fm220 26 rfl))))))] at c339
                            have pPN := c339
                            replace c340 : CN (m324.2 65) (m324.2 67) (m324.1 28) := c340
                            have hCN := c340
                            replace c341 : SOp (m324.2 38) (m324.1 23) (m301.1 24) := c341
                            rewrite [(show (m301.1 24) = ((m.1 24) + 1) from ((fr1 Fm301 24 rfl).trans ((fr1 Fm286 24 rfl).trans (fr1 Fm269 24 rfl))))] at c341
                            have pSO := c341
                            replace c342 : (m301.1 23) ≤ (m324.1 23) := c342
                            rewrite [(show (m301.1 23) = (m247.1 23) from ((fr1 Fm301 23 rfl).trans ((fr1 Fm286 23 rfl).trans (fr1 Fm269 23 rfl))))] at c342
                            replace c343 : (m301.1 28) ≤ (m324.1 28) := c343
                            rewrite [(show (m301.1 28) = (m.1 28) from ((fr1 Fm301 28 rfl).trans ((fr1 Fm286 28 rfl).trans ((fr1 Fm269 28 rfl).trans ((fr1 Fm247 28 rfl).trans (fr1 Fm220 28 rfl))))))] at c343
                            replace c344 : agr (m301.2 65) (m324.2 65) (m301.1 28) := c344
                            rewrite [(show (m301.2 65) = (m.2 65) from ((fr2 Fm301 65 rfl).trans ((fr2 Fm286 65 rfl).trans ((fr2 Fm269 65 rfl).trans ((fr2 Fm247 65 rfl).trans (fr2 Fm220 65 rfl)))))), (show (m301.1 28) = (m.1 28) from ((fr1 Fm301 28 rfl).trans ((fr1 Fm286 28 rfl).trans ((fr1 Fm269 28 rfl).trans ((fr1 Fm247 28 rfl).trans (fr1 Fm220 28 rfl))))))] at c344
                            have hAg := c344
                            replace c345 : agr (m301.2 42) (m324.2 42) (m.1 24) := c345
                            rewrite [(show (m301.2 42) = (upI (m.2 42) (m.1 24) 0) from ((fr2 Fm301 42 rfl).trans ((fr2 Fm286 42 rfl).trans (fr2 Fm269 42 rfl))))] at c345
                            have hB1 := c345
                            replace c346 : agr (m301.2 95) (m324.2 95) (m.1 24) := c346
                            rewrite [(show (m301.2 95) = (m.2 95) from ((fr2 Fm301 95 rfl).trans ((fr2 Fm286 95 rfl).trans ((fr2 Fm269 95 rfl).trans ((fr2 Fm247 95 rfl).trans (fr2 Fm220 95 rfl))))))] at c346
                            have hB2 := c346
                            replace c347 : agr (m301.2 96) (m324.2 96) (m.1 24) := c347
                            rewrite [(show (m301.2 96) = (m.2 96) from ((fr2 Fm301 96 rfl).trans ((fr2 Fm286 96 rfl).trans ((fr2 Fm269 96 rfl).trans ((fr2 Fm247 96 rfl).trans (fr2 Fm220 96 rfl))))))] at c347
                            have hB3 := c347
                            replace c348 : agr (m301.2 44) (m324.2 44) (m.1 24) := c348
                            rewrite [(show (m301.2 44) = (m.2 44) from ((fr2 Fm301 44 rfl).trans ((fr2 Fm286 44 rfl).trans ((fr2 Fm269 44 rfl).trans ((fr2 Fm247 44 rfl).trans (fr2 Fm220 44 rfl))))))] at c348
                            have hB4 := c348
                            replace c349 : agr (m301.2 45) (m324.2 45) (8 * (m.1 24)) := c349
                            rewrite [(show (m301.2 45) = (m.2 45) from ((fr2 Fm301 45 rfl).trans ((fr2 Fm286 45 rfl).trans ((fr2 Fm269 45 rfl).trans ((fr2 Fm247 45 rfl).trans (fr2 Fm220 45 rfl))))))] at c349
                            have hB5 := c349
                            replace c350 : StR (m324.2 65) (m324.1 28) (m324.1 23) (m.1 24) (m324.2 42) (m324.2 95) (m324.2 96) (m324.2 44) (m324.2 45) := c350
                            have hStR := c350
                            clear c328
                            have u351 : (m.1 8) + 1 ≤ (m324.1 8) := by omega
                            have u352 : (m.1 8) + 1 ≤ (m324.1 8) := by omega
                            have u353 : (m.1 23) ≤ (m324.1 23) := by omega
                            have u354 : (m.1 28) ≤ (m324.1 28) := by omega
                            clear q257_13 q257_23 ic250 ic251 ic252 ic255 u282 g291 g292 g293 g294 g295 h287 u297 u298 u299 q304_7 q304_9 q304_11 ic303 h311 h313 h314 c342
                            have hB1 : agr (m.2 42) (m324.2 42) (m.1 24) := agr_t (agr_u (Int.le_refl _)) hB1 (Int.le_refl _)
                            refine T_goto 337 rfl (fun _ => rfl) ?_
                            have hSt2 : StP (m324.2 65) (m324.1 28) (m324.1 23) ((m.1 24) + 1) (m324.2 42) (m324.2 95) (m324.2 96) (m324.2 44) (m324.2 45) := StP_add (StP_f pSt (by omega) (by omega) hAg hB1 hB2 hB3 hB4 hB5 (hT.2.1 42)) hStR
                            refine T_ld 338 (.ref 189) rfl (fun _ => rfl) ?_
                            refine T_ld 340 (.int (i32 125)) rfl (fun _ => rfl) ?_
                            refine T_call 343 232 [.ref 189, .int (i32 125)] [] rfl (fun _ => rfl) rfl (d_need w (mO m324 [] []) c N D (by omega) Tm324 125 ⟨by decide, by decide⟩ (show 1 ≤ (125 : Int) by omega) (show LxP (m324.1 7) (m324.1 8) (m324.1 9) (m324.1 6) (m324.1 10) by rewrite [(show (m324.1 6) = (m.1 6) from ((fr1 Fm324 6 rfl).trans ((fr1 Fm301 6 rfl).trans ((fr1 Fm286 6 rfl).trans ((fr1 Fm269 6 rfl).trans ((fr1 Fm247 6 rfl).trans (fr1 Fm220 6 rfl)))))))]; first | exact hLx | (intro h9; exfalso; omega) | (intro h9; have h8 := hLx (by omega); omega))) (fun rr355 k356 => ?_)
                            obtain ⟨m357, Tm357, Fm357, h358, h359, h360, h361, rfl⟩ := k356
                            refine ⟨_, _, rfl, ?_⟩
                            refine T_nb (st' := []) rfl ?_
                            have g362 : 0 ≤ m357.1 7 ∧ m357.1 7 ≤ 330 := Tm357.1 7
                            have g363 : 0 ≤ m357.1 8 ∧ m357.1 8 ≤ 4000 := Tm357.1 8
                            have g364 : 0 ≤ m357.1 9 ∧ m357.1 9 ≤ 4000 := Tm357.1 9
                            have g365 : 0 ≤ m357.1 10 ∧ m357.1 10 ≤ 8 := Tm357.1 10
                            have g366 : (-1) ≤ m357.1 11 ∧ m357.1 11 ≤ 4000 := Tm357.1 11
                            by_cases hf367 : (m357.1 10) = 0
                            · skip
                              replace h358 : LxP (m357.1 7) (m357.1 8) (m357.1 9) (m324.1 6) (m357.1 10) := h358
                              rewrite [(show (m324.1 6) = (m.1 6) from ((fr1 Fm324 6 rfl).trans ((fr1 Fm301 6 rfl).trans ((fr1 Fm286 6 rfl).trans ((fr1 Fm269 6 rfl).trans ((fr1 Fm247 6 rfl).trans (fr1 Fm220 6 rfl)))))))] at h358
                              have hLx := h358
                              replace h359 : (m324.1 10) = 0 ∧ (m324.1 7) = (125 : Int) := h359 hf367
                              replace h360 : (m324.1 8) ≤ (m357.1 8) := h360
                              replace h361 : (m324.1 8) + (m324.1 9) ≤ (m357.1 8) := h361 hf367
                              have u368 : (m.1 8) + 1 ≤ (m357.1 8) := by omega
                              have u369 : (m.1 8) + 1 ≤ (m357.1 8) := by omega
                              have u370 : (m.1 23) ≤ (m324.1 23) := by omega
                              have u371 : (m.1 28) ≤ (m324.1 28) := by omega
                              clear g329 g330 g331 g332 g333 h326 c338 u351 u352 h359 h360 h361
                              refine T_ret rfl (fun _ => rfl) ?_
                              exact ⟨(mO m357 [] []), Tm357, (fr_m (fr_s Fm357 (fr_m (fr_s Fm324 (fr_m (fr_s Fm301 (fr_m (fr_s Fm286 (fr_m (fr_s Fm269 (fr_m (fr_s Fm247 (fr_m (fr_s Fm220 (fr_m fr_0 rfl rfl) rfl rfl) rfl rfl) rfl rfl) rfl rfl) rfl rfl) rfl rfl) rfl rfl) rfl rfl) rfl rfl) rfl rfl) rfl rfl) rfl rfl) rfl rfl) rfl rfl), (show (m357.1 10) = 0 → (m.1 10) = 0 by omega), (show LxP (m357.1 7) (m357.1 8) (m357.1 9) (m.1 6) (m357.1 10) by first | (first | exact hLx | exact (fun _ => hLx (by omega)) | (intro h9; exfalso; omega)) | (exfalso; omega)), (show ∀ k, (m357.2 14) k + (m357.2 15) k ≤ 4000 by rewrite [(show (m357.2 14) = (m324.2 14) from (fr2 Fm357 14 rfl)), (show (m357.2 15) = (m324.2 15) from (fr2 Fm357 15 rfl))]; first | (first | exact hNM | (intro k; rw [hE1, hE2]; have := hNM k; have h7 := hLx0 hf0; unfold upI; split <;> omega)) | (exfalso; omega)), (fun _ => ⟨(show (m.1 8) + 1 ≤ (m357.1 8) by omega), (show PN (m357.1 13) (m.1 19) (m.1 20) (m.1 21) (m.1 22) (m357.1 23) (m.1 25) (m.1 26) (m357.2 16) (m357.2 17) by rewrite [(show (m357.1 13) = (m324.1 13) from (fr1 Fm357 13 rfl)), (show (m357.1 23) = (m324.1 23) from (fr1 Fm357 23 rfl)), (show (m357.2 16) = (m324.2 16) from (fr2 Fm357 16 rfl)), (show (m357.2 17) = (m324.2 17) from (fr2 Fm357 17 rfl))]; first | (exact pPN) | (exfalso; omega)), (show CN (m357.2 65) (m357.2 67) (m357.1 28) by rewrite [(show (m357.2 65) = (m324.2 65) from (fr2 Fm357 65 rfl)), (show (m357.2 67) = (m324.2 67) from (fr2 Fm357 67 rfl)), (show (m357.1 28) = (m324.1 28) from (fr1 Fm357 28 rfl))]; first | (exact hCN) | (exfalso; omega)), (show SOp (m357.2 38) (m357.1 23) (m357.1 24) by rewrite [(show (m357.2 38) = (m324.2 38) from (fr2 Fm357 38 rfl)), (show (m357.1 23) = (m324.1 23) from (fr1 Fm357 23 rfl)), (show (m357.1 24) = ((m.1 24) + 1) from ((fr1 Fm357 24 rfl).trans ((fr1 Fm324 24 rfl).trans ((fr1 Fm301 24 rfl).trans ((fr1 Fm286 24 rfl).trans (fr1 Fm269 24 rfl))))))]; first | (exact pSO) | (exfalso; omega)), (show (m.1 23) ≤ (m357.1 23) by rewrite [(show (m357.1 23) = (m324.1 23) from (fr1 Fm357 23 rfl))]; omega), (show (m.1 28) ≤ (m357.1 28) by rewrite [(show (m357.1 28) = (m324.1 28) from (fr1 Fm357 28 rfl))]; omega), (show agr (m.2 65) (m357.2 65) (m.1 28) by rewrite [(show (m357.2 65) = (m324.2 65) from (fr2 Fm357 65 rfl))]; first | (exact hAg) | (exfalso; omega)), (show StP (m357.2 65) (m357.1 28) (m357.1 23) (m357.1 24) (m357.2 42) (m357.2 95) (m357.2 96) (m357.2 44) (m357.2 45) by rewrite [(show (m357.2 65) = (m324.2 65) from (fr2 Fm357 65 rfl)), (show (m357.1 28) = (m324.1 28) from (fr1 Fm357 28 rfl)), (show (m357.1 23) = (m324.1 23) from (fr1 Fm357 23 rfl)), (show (m357.1 24) = ((m.1 24) + 1) from ((fr1 Fm357 24 rfl).trans ((fr1 Fm324 24 rfl).trans ((fr1 Fm301 24 rfl).trans ((fr1 Fm286 24 rfl).trans (fr1 Fm269 24 rfl)))))), (show (m357.2 42) = (m324.2 42) from (fr2 Fm357 42 rfl)), (show (m357.2 95) = (m324.2 95) from (fr2 Fm357 95 rfl)), (show (m357.2 96) = (m324.2 96) from (fr2 Fm357 96 rfl)), (show (m357.2 44) = (m324.2 44) from (fr2 Fm357 44 rfl)), (show (m357.2 45) = (m324.2 45) from (fr2 Fm357 45 rfl))]; first | (exact hSt2) | (exfalso; omega))⟩), rfl⟩
                            · skip
                              replace h358 : LxP (m357.1 7) (m357.1 8) (m357.1 9) (m324.1 6) (m357.1 10) := h358
                              rewrite [(show (m324.1 6) = (m.1 6) from ((fr1 Fm324 6 rfl).trans ((fr1 Fm301 6 rfl).trans ((fr1 Fm286 6 rfl).trans ((fr1 Fm269 6 rfl).trans ((fr1 Fm247 6 rfl).trans (fr1 Fm220 6 rfl)))))))] at h358
                              have hLx := h358
                              clear h359
                              replace h360 : (m324.1 8) ≤ (m357.1 8) := h360
                              clear h361
                              have hf372 : 1 ≤ (m357.1 10) := by omega
                              clear g329 g330 g331 g332 g333 h326 c338 u351 u352 h360
                              refine Tm_lv (a := [(0, .ref 189)]) rfl rfl ⟨rfl, trivial⟩ ?_
                              exact J343_22 (mO m357 [] []) Tm357 (fr_m (fr_s Fm357 (fr_m (fr_s Fm324 (fr_m (fr_s Fm301 (fr_m (fr_s Fm286 (fr_m (fr_s Fm269 (fr_m (fr_s Fm247 (fr_m (fr_s Fm220 (fr_m fr_0 rfl rfl) rfl rfl) rfl rfl) rfl rfl) rfl rfl) rfl rfl) rfl rfl) rfl rfl) rfl rfl) rfl rfl) rfl rfl) rfl rfl) rfl rfl) rfl rfl) rfl rfl) (show ∀ k, (m357.2 14) k + (m357.2 15) k ≤ 4000 by rewrite [(show (m357.2 14) = (m324.2 14) from (fr2 Fm357 14 rfl)), (show (m357.2 15) = (m324.2 15) from (fr2 Fm357 15 rfl))]; first | exact hNM | (intro k; rw [hE1, hE2]; have := hNM0 k; have h7 := hLx1; unfold upI; split <;> omega)) (show (m.1 24) ≤ 15 by omega) (show 1 ≤ (m357.1 10) by omega)
                          · skip
                            clear c328
                            clear h325
                            replace h326 : LxP (m324.1 7) (m324.1 8) (m324.1 9) (m301.1 6) (m324.1 10) := h326
                            rewrite [(show (m301.1 6) = (m.1 6) from ((fr1 Fm301 6 rfl).trans ((fr1 Fm286 6 rfl).trans ((fr1 Fm269 6 rfl).trans ((fr1 Fm247 6 rfl).trans (fr1 Fm220 6 rfl))))))] at h326
                            have hLx := h326
                            replace h327 : ∀ k, (m324.2 14) k + (m324.2 15) k ≤ 4000 := h327
                            have hNM := h327
                            have hf373 : 1 ≤ (m324.1 10) := by omega
                            clear q257_13 q257_23 ic250 ic251 ic252 ic255 u282 g291 g292 g293 g294 g295 h287 u297 u298 u299 q304_7 q304_9 q304_11 ic303 h311 h313 h314
                            refine Tm_lv (a := [(0, .ref 189)]) rfl rfl ⟨rfl, trivial⟩ ?_
                            exact J330_51 (mO m324 [] []) Tm324 (fr_m (fr_s Fm324 (fr_m (fr_s Fm301 (fr_m (fr_s Fm286 (fr_m (fr_s Fm269 (fr_m (fr_s Fm247 (fr_m (fr_s Fm220 (fr_m fr_0 rfl rfl) rfl rfl) rfl rfl) rfl rfl) rfl rfl) rfl rfl) rfl rfl) rfl rfl) rfl rfl) rfl rfl) rfl rfl) rfl rfl) rfl rfl) (show ∀ k, (m324.2 14) k + (m324.2 15) k ≤ 4000 by first | exact hNM | (intro k; rw [hE1, hE2]; have := hNM0 k; have h7 := hLx1; unfold upI; split <;> omega)) (show (m.1 24) ≤ 15 by omega) (show 1 ≤ (m324.1 10) by omega)
                      · skip
                        refine T_ld 293 (.ref 189) rfl (fun _ => rfl) ?_
                        refine T_call 296 212 [.ref 189] [] rfl (fun _ => rfl) rfl (d_next w (mO m301 [] []) c N D (by omega) Tm301 (show (m301.1 10) = 0 → (m301.1 8) + (m301.1 9) ≤ (m301.1 6) by rewrite [(show (m301.1 6) = (m.1 6) from ((fr1 Fm301 6 rfl).trans ((fr1 Fm286 6 rfl).trans ((fr1 Fm269 6 rfl).trans ((fr1 Fm247 6 rfl).trans (fr1 Fm220 6 rfl))))))]; first | omega | (intro h9; have h8 := hLx h9; omega))) (fun rr374 k375 => ?_)
                        obtain ⟨m376, Tm376, Fm376, h377, h378, h379, h380, rfl⟩ := k375
                        refine ⟨_, _, rfl, ?_⟩
                        refine T_nb (st' := []) rfl ?_
                        have g381 : 0 ≤ m376.1 7 ∧ m376.1 7 ≤ 330 := Tm376.1 7
                        have g382 : 0 ≤ m376.1 8 ∧ m376.1 8 ≤ 4000 := Tm376.1 8
                        have g383 : 0 ≤ m376.1 9 ∧ m376.1 9 ≤ 4000 := Tm376.1 9
                        have g384 : 0 ≤ m376.1 10 ∧ m376.1 10 ≤ 8 := Tm376.1 10
                        have g385 : (-1) ≤ m376.1 11 ∧ m376.1 11 ≤ 4000 := Tm376.1 11
                        by_cases hf386 : (m376.1 10) = 0
                        · skip
                          replace h377 : LxP (m376.1 7) (m376.1 8) (m376.1 9) (m301.1 6) (m376.1 10) := h377
                          rewrite [(show (m301.1 6) = (m.1 6) from ((fr1 Fm301 6 rfl).trans ((fr1 Fm286 6 rfl).trans ((fr1 Fm269 6 rfl).trans ((fr1 Fm247 6 rfl).trans (fr1 Fm220 6 rfl))))))] at h377
                          have hLx := h377
                          replace h378 : (m301.1 10) = 0 := h378 hf386
                          replace h379 : (m301.1 8) ≤ (m376.1 8) := h379
                          replace h380 : (m301.1 8) + (m301.1 9) ≤ (m376.1 8) := h380 hf386
                          have u387 : (m.1 8) + 1 ≤ (m376.1 8) := by omega
                          have u388 : (m.1 8) + 1 ≤ (m376.1 8) := by omega
                          have u389 : (m.1 23) ≤ (m247.1 23) := by omega
                          have u390 : (m.1 28) ≤ (m.1 28) := by omega
                          clear g291 g292 g293 g294 g295 h287 u297 u298 q304_7 q304_9 q304_11 ic303 h311 h313 h380
                          refine T_gf 300 (.ref 214) rfl rfl rfl rfl rfl rfl ?_
                          refine T_ld 301 (.int (i32 (m.1 24))) rfl (fun _ => rfl) ?_
                          refine T_ld 302 (.ref 189) rfl (fun _ => rfl) ?_
                          refine T_call 305 242 [.ref 189] [.int (i32 (m.1 24)), .ref 214] rfl (fun _ => rfl) rfl (c_stateHere w (mO m376 [] []) c N D (by omega) Tm376 (show LxP (m376.1 7) (m376.1 8) (m376.1 9) (m376.1 6) (m376.1 10) by rewrite [(show (m376.1 6) = (m.1 6) from ((fr1 Fm376 6 rfl).trans ((fr1 Fm301 6 rfl).trans ((fr1 Fm286 6 rfl).trans ((fr1 Fm269 6 rfl).trans ((fr1 Fm247 6 rfl).trans (fr1 Fm220 6 rfl)))))))]; first | exact hLx | exact (fun _ => hLx (by omega)) | (intro h9; exfalso; omega)) (show ∀ k, (m376.2 14) k + (m376.2 15) k ≤ 4000 by rewrite [(show (m376.2 14) = (m247.2 14) from ((fr2 Fm376 14 rfl).trans ((fr2 Fm301 14 rfl).trans ((fr2 Fm286 14 rfl).trans (fr2 Fm269 14 rfl))))), (show (m376.2 15) = (m247.2 15) from ((fr2 Fm376 15 rfl).trans ((fr2 Fm301 15 rfl).trans ((fr2 Fm286 15 rfl).trans (fr2 Fm269 15 rfl)))))]; assumption) (fun _ => ⟨(show PN (m376.1 13) (m376.1 19) (m376.1 20) (m376.1 21) (m376.1 22) (m376.1 23) (m376.1 25) (m376.1 26) (m376.2 16) (m376.2 17) by rewrite [(show (m376.1 13) = (m247.1 13) from ((fr1 Fm376 13 rfl).trans ((fr1 Fm301 13 rfl).trans ((fr1 Fm286 13 rfl).trans (fr1 Fm269 13 rfl))))), (show (m376.1 19) = (m.1 19) from ((fr1 Fm376 19 rfl).trans ((fr1 Fm301 19 rfl).trans ((fr1 Fm286 19 rfl).trans ((fr1 Fm269 19 rfl).trans ((fr1 Fm247 19 rfl).trans (fr1 Fm220 19 rfl))))))), (show (m376.1 20) = (m.1 20) from ((fr1 Fm376 20 rfl).trans ((fr1 Fm301 20 rfl).trans ((fr1 Fm286 20 rfl).trans ((fr1 Fm269 20 rfl).trans ((fr1 Fm247 20 rfl).trans (fr1 Fm220 20 rfl))))))), (show (m376.1 21) = (m.1 21) from ((fr1 Fm376 21 rfl).trans ((fr1 Fm301 21 rfl).trans ((fr1 Fm286 21 rfl).trans ((fr1 Fm269 21 rfl).trans ((fr1 Fm247 21 rfl).trans (fr1 Fm220 21 rfl))))))), (show (m376.1 22) = (m.1 22) from ((fr1 Fm376 22 rfl).trans ((fr1 Fm301 22 rfl).trans ((fr1 Fm286 22 rfl).trans ((fr1 Fm269 22 rfl).trans ((fr1 Fm247 22 rfl).trans (fr1 Fm220 22 rfl))))))), (show (m376.1 23) = (m247.1 23) from ((fr1 Fm376 23 rfl).trans ((fr1 Fm301 23 rfl).trans ((fr1 Fm286 23 rfl).trans (fr1 Fm269 23 rfl))))), (show (m376.1 25) = (m.1 25) from ((fr1 Fm376 25 rfl).trans ((fr1 Fm301 25 rfl).trans ((fr1 Fm286 25 rfl).trans ((fr1 Fm269 25 rfl).trans ((fr1 Fm247 25 rfl).trans (fr1 Fm220 25 rfl))))))), (show (m376.1 26) = (m.1 26) from ((fr1 Fm376 26 rfl).trans ((fr1 Fm301 26 rfl).trans ((fr1 Fm286 26 rfl).trans ((fr1 Fm269 26 rfl).trans ((fr1 Fm247 26 rfl).trans (fr1 Fm220 26 rfl))))))), (show (m376.2 16) = (m247.2 16) from ((fr2 Fm376 16 rfl).trans ((fr2 Fm301 16 rfl).trans ((fr2 Fm286 16 rfl).trans (fr2 Fm269 16 rfl))))), (show (m376.2 17) = (m247.2 17) from ((fr2 Fm376 17 rfl).trans ((fr2 Fm301 17 rfl).trans ((fr2 Fm286 17 rfl).trans (fr2 Fm269 17 rfl)))))]; assumption), (show SOp (m376.2 38) (m376.1 23) (m376.1 24) by rewrite [(show (m376.2 38) = (upI (m.2 38) v246 (m.1 24)) from ((fr2 Fm376 38 rfl).trans ((fr2 Fm301 38 rfl).trans ((fr2 Fm286 38 rfl).trans (fr2 Fm269 38 rfl))))), (show (m376.1 23) = (m247.1 23) from ((fr1 Fm376 23 rfl).trans ((fr1 Fm301 23 rfl).trans ((fr1 Fm286 23 rfl).trans (fr1 Fm269 23 rfl))))), (show (m376.1 24) = ((m.1 24) + 1) from ((fr1 Fm376 24 rfl).trans ((fr1 Fm301 24 rfl).trans ((fr1 Fm286 24 rfl).trans (fr1 Fm269 24 rfl)))))]; first | exact pSO | assumption)⟩)) (fun rr391 k392 => ?_)
                          obtain ⟨m393, x394, Tm393, Fm393, g395, h396, h397, h398, c399, rfl⟩ := k392
                          refine ⟨_, _, rfl, ?_⟩
                          refine T_nb (st' := [.int (i32 x394), .int (i32 (m.1 24)), .ref 214]) rfl ?_
                          obtain ⟨g395a, g395b⟩ := g395
                          have g400 : 0 ≤ m393.1 7 ∧ m393.1 7 ≤ 330 := Tm393.1 7
                          have g401 : 0 ≤ m393.1 8 ∧ m393.1 8 ≤ 4000 := Tm393.1 8
                          have g402 : 0 ≤ m393.1 9 ∧ m393.1 9 ≤ 4000 := Tm393.1 9
                          have g403 : 0 ≤ m393.1 10 ∧ m393.1 10 ≤ 8 := Tm393.1 10
                          have g404 : (-1) ≤ m393.1 11 ∧ m393.1 11 ≤ 4000 := Tm393.1 11
                          have g405 : 0 ≤ m393.1 13 ∧ m393.1 13 ≤ 120 := Tm393.1 13
                          have g406 : 0 ≤ m393.1 23 ∧ m393.1 23 ≤ 16 := Tm393.1 23
                          by_cases hf407 : (m393.1 10) = 0
                          · skip
                            replace h396 : (m376.1 10) = 0 := h396 hf407
                            replace h397 : LxP (m393.1 7) (m393.1 8) (m393.1 9) (m376.1 6) (m393.1 10) := h397
                            rewrite [(show (m376.1 6) = (m.1 6) from ((fr1 Fm376 6 rfl).trans ((fr1 Fm301 6 rfl).trans ((fr1 Fm286 6 rfl).trans ((fr1 Fm269 6 rfl).trans ((fr1 Fm247 6 rfl).trans (fr1 Fm220 6 rfl)))))))] at h397
                            have hLx := h397
                            replace h398 : ∀ k, (m393.2 14) k + (m393.2 15) k ≤ 4000 := h398
                            have hNM := h398
                            obtain ⟨c408, c409, c410, c411, c412⟩ := c399 hf407
                            replace c408 : (m376.1 8) + 1 ≤ (m393.1 8) := c408
                            replace c409 : PN (m393.1 13) (m376.1 19) (m376.1 20) (m376.1 21) (m376.1 22) (m393.1 23) (m376.1 25) (m376.1 26) (m393.2 16) (m393.2 17) := c409
                            rewrite [(show (m376.1 19) = (m.1 19) from ((fr1 Fm376 19 rfl).trans ((fr1 Fm301 19 rfl).trans ((fr1 Fm286 19 rfl).trans ((fr1 Fm269 19 rfl).trans ((fr1 Fm247 19 rfl).trans (fr1 Fm220 19 rfl))))))), (show (m376.1 20) = (m.1 20) from ((fr1 Fm376 20 rfl).trans ((fr1 Fm301 20 rfl).trans ((fr1 Fm286 20 rfl).trans ((fr1 Fm269 20 rfl).trans ((fr1 Fm247 20 rfl).trans (fr1 Fm220 20 rfl))))))), (show (m376.1 21) = (m.1 21) from ((fr1 Fm376 21 rfl).trans ((fr1 Fm301 21 rfl).trans ((fr1 Fm286 21 rfl).trans ((fr1 Fm269 21 rfl).trans ((fr1 Fm247 21 rfl).trans (fr1 Fm220 21 rfl))))))), (show (m376.1 22) = (m.1 22) from ((fr1 Fm376 22 rfl).trans ((fr1 Fm301 22 rfl).trans ((fr1 Fm286 22 rfl).trans ((fr1 Fm269 22 rfl).trans ((fr1 Fm247 22 rfl).trans (fr1 Fm220 22 rfl))))))), (show (m376.1 25) = (m.1 25) from ((fr1 Fm376 25 rfl).trans ((fr1 Fm301 25 rfl).trans ((fr1 Fm286 25 rfl).trans ((fr1 Fm269 25 rfl).trans ((fr1 Fm247 25 rfl).trans (fr1 Fm220 25 rfl))))))), (show (m376.1 26) = (m.1 26) from ((fr1 Fm376 26 rfl).trans ((fr1 Fm301 26 rfl).trans ((fr1 Fm286 26 rfl).trans ((fr1 Fm269 26 rfl).trans ((fr1 Fm247 26 rfl).trans (fr1 Fm220 26 rfl)))))))] at c409
                            have pPN := c409
                            replace c410 : SOp (m393.2 38) (m393.1 23) (m376.1 24) := c410
                            rewrite [(show (m376.1 24) = ((m.1 24) + 1) from ((fr1 Fm376 24 rfl).trans ((fr1 Fm301 24 rfl).trans ((fr1 Fm286 24 rfl).trans (fr1 Fm269 24 rfl)))))] at c410
                            have pSO := c410
                            replace c411 : x394 < (m393.1 23) := c411
                            have hRS := c411
                            replace c412 : (m376.1 23) ≤ (m393.1 23) := c412
                            rewrite [(show (m376.1 23) = (m247.1 23) from ((fr1 Fm376 23 rfl).trans ((fr1 Fm301 23 rfl).trans ((fr1 Fm286 23 rfl).trans (fr1 Fm269 23 rfl)))))] at c412
                            clear c399
                            have u413 : (m.1 8) + 1 ≤ (m393.1 8) := by omega
                            have u414 : (m.1 8) + 1 ≤ (m393.1 8) := by omega
                            have u415 : (m.1 23) ≤ (m393.1 23) := by omega
                            have u416 : (m.1 28) ≤ (m.1 28) := by omega
                            clear q257_13 q257_23 ic250 ic251 ic252 ic255 u282 u299 g381 g382 g383 g384 g385 h377 h379 u387 u388 u389 h396 c408 c412
                            have G417 : ∀ j, (-2) ≤ (upI (m.2 44) (m.1 24) x394) j ∧ (upI (m.2 44) (m.1 24) x394) j ≤ 15 := upI_rg (hT.2.1 44) ⟨by omega, by omega⟩
                            refine T_iast (a' := [(44, upI (m.2 44) (m.1 24) x394)]) 306 44 (m.2 44) rfl rfl rfl (by omega) (show (m.1 24) < (16 : Int) by omega) (show (m393.2 44) = (m.2 44) from ((fr2 Fm393 44 rfl).trans ((fr2 Fm376 44 rfl).trans ((fr2 Fm301 44 rfl).trans ((fr2 Fm286 44 rfl).trans ((fr2 Fm269 44 rfl).trans ((fr2 Fm247 44 rfl).trans (fr2 Fm220 44 rfl)))))))) rfl ?_
                            refine T_ld 307 (.ref 189) rfl (fun _ => rfl) ?_
                            refine T_ld 309 (.int (i32 59)) rfl (fun _ => rfl) ?_
                            refine T_call 312 232 [.ref 189, .int (i32 59)] [] rfl (fun _ => rfl) rfl (d_need w (mO m393 [] [(44, upI (m.2 44) (m.1 24) x394)]) c N D (by omega) (Ty_mO Tm393 rfl rfl trivial ⟨G417, trivial⟩) 59 ⟨by decide, by decide⟩ (show 1 ≤ (59 : Int) by omega) (show LxP (m393.1 7) (m393.1 8) (m393.1 9) (m393.1 6) (m393.1 10) by rewrite [(show (m393.1 6) = (m.1 6) from ((fr1 Fm393 6 rfl).trans ((fr1 Fm376 6 rfl).trans ((fr1 Fm301 6 rfl).trans ((fr1 Fm286 6 rfl).trans ((fr1 Fm269 6 rfl).trans ((fr1 Fm247 6 rfl).trans (fr1 Fm220 6 rfl))))))))]; first | exact hLx | (intro h9; exfalso; omega) | (intro h9; have h8 := hLx (by omega); omega))) (fun rr418 k419 => ?_)
                            obtain ⟨m420, Tm420, Fm420, h421, h422, h423, h424, rfl⟩ := k419
                            refine ⟨_, _, rfl, ?_⟩
                            refine T_nb (st' := []) rfl ?_
                            have g425 : 0 ≤ m420.1 7 ∧ m420.1 7 ≤ 330 := Tm420.1 7
                            have g426 : 0 ≤ m420.1 8 ∧ m420.1 8 ≤ 4000 := Tm420.1 8
                            have g427 : 0 ≤ m420.1 9 ∧ m420.1 9 ≤ 4000 := Tm420.1 9
                            have g428 : 0 ≤ m420.1 10 ∧ m420.1 10 ≤ 8 := Tm420.1 10
                            have g429 : (-1) ≤ m420.1 11 ∧ m420.1 11 ≤ 4000 := Tm420.1 11
                            by_cases hf430 : (m420.1 10) = 0
                            · skip
                              replace h421 : LxP (m420.1 7) (m420.1 8) (m420.1 9) (m393.1 6) (m420.1 10) := h421
                              rewrite [(show (m393.1 6) = (m.1 6) from ((fr1 Fm393 6 rfl).trans ((fr1 Fm376 6 rfl).trans ((fr1 Fm301 6 rfl).trans ((fr1 Fm286 6 rfl).trans ((fr1 Fm269 6 rfl).trans ((fr1 Fm247 6 rfl).trans (fr1 Fm220 6 rfl))))))))] at h421
                              have hLx := h421
                              replace h422 : (m393.1 10) = 0 ∧ (m393.1 7) = (59 : Int) := h422 hf430
                              replace h423 : (m393.1 8) ≤ (m420.1 8) := h423
                              replace h424 : (m393.1 8) + (m393.1 9) ≤ (m420.1 8) := h424 hf430
                              have u431 : (m.1 8) + 1 ≤ (m420.1 8) := by omega
                              have u432 : (m.1 8) + 1 ≤ (m420.1 8) := by omega
                              have u433 : (m.1 23) ≤ (m393.1 23) := by omega
                              have u434 : (m.1 28) ≤ (m.1 28) := by omega
                              clear g400 g401 g402 g403 g404 h397 u413 u414 h422 h423 h424
                              have hStR : StR (m.2 65) (m.1 28) (m393.1 23) (m.1 24) (upI (m.2 42) (m.1 24) 0) (m.2 95) (m.2 96) (upI (m.2 44) (m.1 24) x394) (m.2 45) := ⟨fun h => by rw [upI_s] at h; omega, by rw [upI_s]; omega, fun c c0 c1 => by rw [upI_s] at c1; omega⟩
                              have hB1 := agr_u (f := (m.2 42)) (x := 0) (Int.le_refl (m.1 24))
                              have hB2 := agr_r (m.2 95) (m.1 24)
                              have hB3 := agr_r (m.2 96) (m.1 24)
                              have hB4 : agr (m.2 44) (upI (m.2 44) (m.1 24) x394) (m.1 24) := agr_u (Int.le_refl _)
                              have hB5 := agr_r (m.2 45) (8 * (m.1 24))
                              refine T_goto 337 rfl (fun _ => rfl) ?_
                              have hSt2 : StP (m.2 65) (m.1 28) (m393.1 23) ((m.1 24) + 1) (upI (m.2 42) (m.1 24) 0) (m.2 95) (m.2 96) (upI (m.2 44) (m.1 24) x394) (m.2 45) := StP_add (StP_f pSt (by omega) (by omega) hAg hB1 hB2 hB3 hB4 hB5 (hT.2.1 42)) hStR
                              refine T_ld 338 (.ref 189) rfl (fun _ => rfl) ?_
                              refine T_ld 340 (.int (i32 125)) rfl (fun _ => rfl) ?_
                              refine T_call 343 232 [.ref 189, .int (i32 125)] [] rfl (fun _ => rfl) rfl (d_need w (mO m420 [] []) c N D (by omega) Tm420 125 ⟨by decide, by decide⟩ (show 1 ≤ (125 : Int) by omega) (show LxP (m420.1 7) (m420.1 8) (m420.1 9) (m420.1 6) (m420.1 10) by rewrite [(show (m420.1 6) = (m.1 6) from ((fr1 Fm420 6 rfl).trans ((fr1 Fm393 6 rfl).trans ((fr1 Fm376 6 rfl).trans ((fr1 Fm301 6 rfl).trans ((fr1 Fm286 6 rfl).trans ((fr1 Fm269 6 rfl).trans ((fr1 Fm247 6 rfl).trans (fr1 Fm220 6 rfl)))))))))]; first | exact hLx | (intro h9; exfalso; omega) | (intro h9; have h8 := hLx (by omega); omega))) (fun rr435 k436 => ?_)
                              obtain ⟨m437, Tm437, Fm437, h438, h439, h440, h441, rfl⟩ := k436
                              refine ⟨_, _, rfl, ?_⟩
                              refine T_nb (st' := []) rfl ?_
                              have g442 : 0 ≤ m437.1 7 ∧ m437.1 7 ≤ 330 := Tm437.1 7
                              have g443 : 0 ≤ m437.1 8 ∧ m437.1 8 ≤ 4000 := Tm437.1 8
                              have g444 : 0 ≤ m437.1 9 ∧ m437.1 9 ≤ 4000 := Tm437.1 9
                              have g445 : 0 ≤ m437.1 10 ∧ m437.1 10 ≤ 8 := Tm437.1 10
                              have g446 : (-1) ≤ m437.1 11 ∧ m437.1 11 ≤ 4000 := Tm437.1 11
                              by_cases hf447 : (m437.1 10) = 0
                              · skip
                                replace h438 : LxP (m437.1 7) (m437.1 8) (m437.1 9) (m420.1 6) (m437.1 10) := h438
                                rewrite [(show (m420.1 6) = (m.1 6) from ((fr1 Fm420 6 rfl).trans ((fr1 Fm393 6 rfl).trans ((fr1 Fm376 6 rfl).trans ((fr1 Fm301 6 rfl).trans ((fr1 Fm286 6 rfl).trans ((fr1 Fm269 6 rfl).trans ((fr1 Fm247 6 rfl).trans (fr1 Fm220 6 rfl)))))))))] at h438
                                have hLx := h438
                                replace h439 : (m420.1 10) = 0 ∧ (m420.1 7) = (125 : Int) := h439 hf447
                                replace h440 : (m420.1 8) ≤ (m437.1 8) := h440
                                replace h441 : (m420.1 8) + (m420.1 9) ≤ (m437.1 8) := h441 hf447
                                have u448 : (m.1 8) + 1 ≤ (m437.1 8) := by omega
                                have u449 : (m.1 8) + 1 ≤ (m437.1 8) := by omega
                                have u450 : (m.1 23) ≤ (m393.1 23) := by omega
                                have u451 : (m.1 28) ≤ (m.1 28) := by omega
                                clear g425 g426 g427 g428 g429 h421 u431 u432 h439 h440 h441
                                refine T_ret rfl (fun _ => rfl) ?_
                                exact ⟨(mO m437 [] []), Tm437, (fr_m (fr_s Fm437 (fr_m (fr_s Fm420 (fr_m (fr_s Fm393 (fr_m (fr_s Fm376 (fr_m (fr_s Fm301 (fr_m (fr_s Fm286 (fr_m (fr_s Fm269 (fr_m (fr_s Fm247 (fr_m (fr_s Fm220 (fr_m fr_0 rfl rfl) rfl rfl) rfl rfl) rfl rfl) rfl rfl) rfl rfl) rfl rfl) rfl rfl) rfl rfl) rfl rfl) rfl rfl) rfl rfl) rfl rfl) rfl rfl) rfl rfl) rfl rfl) rfl rfl) rfl rfl) rfl rfl), (show (m437.1 10) = 0 → (m.1 10) = 0 by omega), (show LxP (m437.1 7) (m437.1 8) (m437.1 9) (m.1 6) (m437.1 10) by first | (first | exact hLx | exact (fun _ => hLx (by omega)) | (intro h9; exfalso; omega)) | (exfalso; omega)), (show ∀ k, (m437.2 14) k + (m437.2 15) k ≤ 4000 by rewrite [(show (m437.2 14) = (m393.2 14) from ((fr2 Fm437 14 rfl).trans (fr2 Fm420 14 rfl))), (show (m437.2 15) = (m393.2 15) from ((fr2 Fm437 15 rfl).trans (fr2 Fm420 15 rfl)))]; first | (first | exact hNM | (intro k; rw [hE1, hE2]; have := hNM k; have h7 := hLx0 hf0; unfold upI; split <;> omega)) | (exfalso; omega)), (fun _ => ⟨(show (m.1 8) + 1 ≤ (m437.1 8) by omega), (show PN (m437.1 13) (m.1 19) (m.1 20) (m.1 21) (m.1 22) (m437.1 23) (m.1 25) (m.1 26) (m437.2 16) (m437.2 17) by rewrite [(show (m437.1 13) = (m393.1 13) from ((fr1 Fm437 13 rfl).trans (fr1 Fm420 13 rfl))), (show (m437.1 23) = (m393.1 23) from ((fr1 Fm437 23 rfl).trans (fr1 Fm420 23 rfl))), (show (m437.2 16) = (m393.2 16) from ((fr2 Fm437 16 rfl).trans (fr2 Fm420 16 rfl))), (show (m437.2 17) = (m393.2 17) from ((fr2 Fm437 17 rfl).trans (fr2 Fm420 17 rfl)))]; first | (exact pPN) | (exfalso; omega)), (show CN (m437.2 65) (m437.2 67) (m437.1 28) by rewrite [(show (m437.2 65) = (m.2 65) from ((fr2 Fm437 65 rfl).trans ((fr2 Fm420 65 rfl).trans ((fr2 Fm393 65 rfl).trans ((fr2 Fm376 65 rfl).trans ((fr2 Fm301 65 rfl).trans ((fr2 Fm286 65 rfl).trans ((fr2 Fm269 65 rfl).trans ((fr2 Fm247 65 rfl).trans (fr2 Fm220 65 rfl)))))))))), (show (m437.2 67) = (m.2 67) from ((fr2 Fm437 67 rfl).trans ((fr2 Fm420 67 rfl).trans ((fr2 Fm393 67 rfl).trans ((fr2 Fm376 67 rfl).trans ((fr2 Fm301 67 rfl).trans ((fr2 Fm286 67 rfl).trans ((fr2 Fm269 67 rfl).trans ((fr2 Fm247 67 rfl).trans (fr2 Fm220 67 rfl)))))))))), (show (m437.1 28) = (m.1 28) from ((fr1 Fm437 28 rfl).trans ((fr1 Fm420 28 rfl).trans ((fr1 Fm393 28 rfl).trans ((fr1 Fm376 28 rfl).trans ((fr1 Fm301 28 rfl).trans ((fr1 Fm286 28 rfl).trans ((fr1 Fm269 28 rfl).trans ((fr1 Fm247 28 rfl).trans (fr1 Fm220 28 rfl))))))))))]; first | (exact hCN) | (exfalso; omega)), (show SOp (m437.2 38) (m437.1 23) (m437.1 24) by rewrite [(show (m437.2 38) = (m393.2 38) from ((fr2 Fm437 38 rfl).trans (fr2 Fm420 38 rfl))), (show (m437.1 23) = (m393.1 23) from ((fr1 Fm437 23 rfl).trans (fr1 Fm420 23 rfl))), (show (m437.1 24) = ((m.1 24) + 1) from ((fr1 Fm437 24 rfl).trans ((fr1 Fm420 24 rfl).trans ((fr1 Fm393 24 rfl).trans ((fr1 Fm376 24 rfl).trans ((fr1 Fm301 24 rfl).trans ((fr1 Fm286 24 rfl).trans (fr1 Fm269 24 rfl))))))))]; first | (exact pSO) | (exfalso; omega)), (show (m.1 23) ≤ (m437.1 23) by rewrite [(show (m437.1 23) = (m393.1 23) from ((fr1 Fm437 23 rfl).trans (fr1 Fm420 23 rfl)))]; omega), (show (m.1 28) ≤ (m437.1 28) by rewrite [(show (m437.1 28) = (m.1 28) from ((fr1 Fm437 28 rfl).trans ((fr1 Fm420 28 rfl).trans ((fr1 Fm393 28 rfl).trans ((fr1 Fm376 28 rfl).trans ((fr1 Fm301 28 rfl).trans ((fr1 Fm286 28 rfl).trans ((fr1 Fm269 28 rfl).trans ((fr1 Fm247 28 rfl).trans (fr1 Fm220 28 rfl))))))))))]; omega), (show agr (m.2 65) (m437.2 65) (m.1 28) by rewrite [(show (m437.2 65) = (m.2 65) from ((fr2 Fm437 65 rfl).trans ((fr2 Fm420 65 rfl).trans ((fr2 Fm393 65 rfl).trans ((fr2 Fm376 65 rfl).trans ((fr2 Fm301 65 rfl).trans ((fr2 Fm286 65 rfl).trans ((fr2 Fm269 65 rfl).trans ((fr2 Fm247 65 rfl).trans (fr2 Fm220 65 rfl))))))))))]; first | (exact hAg) | (exfalso; omega)), (show StP (m437.2 65) (m437.1 28) (m437.1 23) (m437.1 24) (m437.2 42) (m437.2 95) (m437.2 96) (m437.2 44) (m437.2 45) by rewrite [(show (m437.2 65) = (m.2 65) from ((fr2 Fm437 65 rfl).trans ((fr2 Fm420 65 rfl).trans ((fr2 Fm393 65 rfl).trans ((fr2 Fm376 65 rfl).trans ((fr2 Fm301 65 rfl).trans ((fr2 Fm286 65 rfl).trans ((fr2 Fm269 65 rfl).trans ((fr2 Fm247 65 rfl).trans (fr2 Fm220 65 rfl)))))))))), (show (m437.1 28) = (m.1 28) from ((fr1 Fm437 28 rfl).trans ((fr1 Fm420 28 rfl).trans ((fr1 Fm393 28 rfl).trans ((fr1 Fm376 28 rfl).trans ((fr1 Fm301 28 rfl).trans ((fr1 Fm286 28 rfl).trans ((fr1 Fm269 28 rfl).trans ((fr1 Fm247 28 rfl).trans (fr1 Fm220 28 rfl)))))))))), (show (m437.1 23) = (m393.1 23) from ((fr1 Fm437 23 rfl).trans (fr1 Fm420 23 rfl))), (show (m437.1 24) = ((m.1 24) + 1) from ((fr1 Fm437 24 rfl).trans ((fr1 Fm420 24 rfl).trans ((fr1 Fm393 24 rfl).trans ((fr1 Fm376 24 rfl).trans ((fr1 Fm301 24 rfl).trans ((fr1 Fm286 24 rfl).trans (fr1 Fm269 24 rfl)))))))), (show (m437.2 42) = (upI (m.2 42) (m.1 24) 0) from ((fr2 Fm437 42 rfl).trans ((fr2 Fm420 42 rfl).trans ((fr2 Fm393 42 rfl).trans ((fr2 Fm376 42 rfl).trans ((fr2 Fm301 42 rfl).trans ((fr2 Fm286 42 rfl).trans (fr2 Fm269 42 rfl)))))))), (show (m437.2 95) = (m.2 95) from ((fr2 Fm437 95 rfl).trans ((fr2 Fm420 95 rfl).trans ((fr2 Fm393 95 rfl).trans ((fr2 Fm376 95 rfl).trans ((fr2 Fm301 95 rfl).trans ((fr2 Fm286 95 rfl).trans ((fr2 Fm269 95 rfl).trans ((fr2 Fm247 95 rfl).trans (fr2 Fm220 95 rfl)))))))))), (show (m437.2 96) = (m.2 96) from ((fr2 Fm437 96 rfl).trans ((fr2 Fm420 96 rfl).trans ((fr2 Fm393 96 rfl).trans ((fr2 Fm376 96 rfl).trans ((fr2 Fm301 96 rfl).trans ((fr2 Fm286 96 rfl).trans ((fr2 Fm269 96 rfl).trans ((fr2 Fm247 96 rfl).trans (fr2 Fm220 96 rfl)))))))))), (show (m437.2 44) = (upI (m.2 44) (m.1 24) x394) from ((fr2 Fm437 44 rfl).trans (fr2 Fm420 44 rfl))), (show (m437.2 45) = (m.2 45) from ((fr2 Fm437 45 rfl).trans ((fr2 Fm420 45 rfl).trans ((fr2 Fm393 45 rfl).trans ((fr2 Fm376 45 rfl).trans ((fr2 Fm301 45 rfl).trans ((fr2 Fm286 45 rfl).trans ((fr2 Fm269 45 rfl).trans ((fr2 Fm247 45 rfl).trans (fr2 Fm220 45 rfl))))))))))]; first | (exact hSt2) | (exfalso; omega))⟩), rfl⟩
                              · skip
                                replace h438 : LxP (m437.1 7) (m437.1 8) (m437.1 9) (m420.1 6) (m437.1 10) := h438
                                rewrite [(show (m420.1 6) = (m.1 6) from ((fr1 Fm420 6 rfl).trans ((fr1 Fm393 6 rfl).trans ((fr1 Fm376 6 rfl).trans ((fr1 Fm301 6 rfl).trans ((fr1 Fm286 6 rfl).trans ((fr1 Fm269 6 rfl).trans ((fr1 Fm247 6 rfl).trans (fr1 Fm220 6 rfl)))))))))] at h438
                                have hLx := h438
                                clear h439
                                replace h440 : (m420.1 8) ≤ (m437.1 8) := h440
                                clear h441
                                have hf452 : 1 ≤ (m437.1 10) := by omega
                                clear g425 g426 g427 g428 g429 h421 u431 u432 h440
                                refine Tm_lv (a := [(0, .ref 189)]) rfl rfl ⟨rfl, trivial⟩ ?_
                                exact J343_22 (mO m437 [] []) Tm437 (fr_m (fr_s Fm437 (fr_m (fr_s Fm420 (fr_m (fr_s Fm393 (fr_m (fr_s Fm376 (fr_m (fr_s Fm301 (fr_m (fr_s Fm286 (fr_m (fr_s Fm269 (fr_m (fr_s Fm247 (fr_m (fr_s Fm220 (fr_m fr_0 rfl rfl) rfl rfl) rfl rfl) rfl rfl) rfl rfl) rfl rfl) rfl rfl) rfl rfl) rfl rfl) rfl rfl) rfl rfl) rfl rfl) rfl rfl) rfl rfl) rfl rfl) rfl rfl) rfl rfl) rfl rfl) rfl rfl) (show ∀ k, (m437.2 14) k + (m437.2 15) k ≤ 4000 by rewrite [(show (m437.2 14) = (m393.2 14) from ((fr2 Fm437 14 rfl).trans (fr2 Fm420 14 rfl))), (show (m437.2 15) = (m393.2 15) from ((fr2 Fm437 15 rfl).trans (fr2 Fm420 15 rfl)))]; first | exact hNM | (intro k; rw [hE1, hE2]; have := hNM0 k; have h7 := hLx1; unfold upI; split <;> omega)) (show (m.1 24) ≤ 15 by omega) (show 1 ≤ (m437.1 10) by omega)
                            · skip
                              replace h421 : LxP (m420.1 7) (m420.1 8) (m420.1 9) (m393.1 6) (m420.1 10) := h421
                              rewrite [(show (m393.1 6) = (m.1 6) from ((fr1 Fm393 6 rfl).trans ((fr1 Fm376 6 rfl).trans ((fr1 Fm301 6 rfl).trans ((fr1 Fm286 6 rfl).trans ((fr1 Fm269 6 rfl).trans ((fr1 Fm247 6 rfl).trans (fr1 Fm220 6 rfl))))))))] at h421
                              have hLx := h421
                              clear h422
                              replace h423 : (m393.1 8) ≤ (m420.1 8) := h423
                              clear h424
                              have hf453 : 1 ≤ (m420.1 10) := by omega
                              clear g400 g401 g402 g403 g404 h397 u413 u414 h423
                              refine Tm_lv (a := [(0, .ref 189)]) rfl rfl ⟨rfl, trivial⟩ ?_
                              exact J312_72 (mO m420 [] []) Tm420 (fr_m (fr_s Fm420 (fr_m (fr_s Fm393 (fr_m (fr_s Fm376 (fr_m (fr_s Fm301 (fr_m (fr_s Fm286 (fr_m (fr_s Fm269 (fr_m (fr_s Fm247 (fr_m (fr_s Fm220 (fr_m fr_0 rfl rfl) rfl rfl) rfl rfl) rfl rfl) rfl rfl) rfl rfl) rfl rfl) rfl rfl) rfl rfl) rfl rfl) rfl rfl) rfl rfl) rfl rfl) rfl rfl) rfl rfl) rfl rfl) rfl rfl) (show ∀ k, (m420.2 14) k + (m420.2 15) k ≤ 4000 by rewrite [(show (m420.2 14) = (m393.2 14) from (fr2 Fm420 14 rfl)), (show (m420.2 15) = (m393.2 15) from (fr2 Fm420 15 rfl))]; first | exact hNM | (intro k; rw [hE1, hE2]; have := hNM0 k; have h7 := hLx1; unfold upI; split <;> omega)) (show (m.1 24) ≤ 15 by omega) (show 1 ≤ (m420.1 10) by omega)
                          · skip
                            clear c399
                            clear h396
                            replace h397 : LxP (m393.1 7) (m393.1 8) (m393.1 9) (m376.1 6) (m393.1 10) := h397
                            rewrite [(show (m376.1 6) = (m.1 6) from ((fr1 Fm376 6 rfl).trans ((fr1 Fm301 6 rfl).trans ((fr1 Fm286 6 rfl).trans ((fr1 Fm269 6 rfl).trans ((fr1 Fm247 6 rfl).trans (fr1 Fm220 6 rfl)))))))] at h397
                            have hLx := h397
                            replace h398 : ∀ k, (m393.2 14) k + (m393.2 15) k ≤ 4000 := h398
                            have hNM := h398
                            have hf454 : 1 ≤ (m393.1 10) := by omega
                            clear q257_13 q257_23 ic250 ic251 ic252 ic255 u282 u299 g381 g382 g383 g384 g385 h377 h379 u387 u388 u389
                            refine Tm_lv (a := [(0, .ref 189)]) rfl rfl ⟨rfl, trivial⟩ ?_
                            exact J305_94 x394 (mO m393 [] []) (r32 (by omega) (by omega)) Tm393 (fr_m (fr_s Fm393 (fr_m (fr_s Fm376 (fr_m (fr_s Fm301 (fr_m (fr_s Fm286 (fr_m (fr_s Fm269 (fr_m (fr_s Fm247 (fr_m (fr_s Fm220 (fr_m fr_0 rfl rfl) rfl rfl) rfl rfl) rfl rfl) rfl rfl) rfl rfl) rfl rfl) rfl rfl) rfl rfl) rfl rfl) rfl rfl) rfl rfl) rfl rfl) rfl rfl) rfl rfl) (show (-2) ≤ x394 by omega) (show x394 ≤ 15 by omega) (show ∀ k, (m393.2 14) k + (m393.2 15) k ≤ 4000 by first | exact hNM | (intro k; rw [hE1, hE2]; have := hNM0 k; have h7 := hLx1; unfold upI; split <;> omega)) (show (m.1 24) ≤ 15 by omega) (show 0 ≤ (m.1 24) ∧ (m.1 24) ≤ 16 by omega) (show 1 ≤ (m393.1 10) by omega)
                        · skip
                          replace h377 : LxP (m376.1 7) (m376.1 8) (m376.1 9) (m301.1 6) (m376.1 10) := h377
                          rewrite [(show (m301.1 6) = (m.1 6) from ((fr1 Fm301 6 rfl).trans ((fr1 Fm286 6 rfl).trans ((fr1 Fm269 6 rfl).trans ((fr1 Fm247 6 rfl).trans (fr1 Fm220 6 rfl))))))] at h377
                          have hLx := h377
                          clear h378
                          replace h379 : (m301.1 8) ≤ (m376.1 8) := h379
                          clear h380
                          have hf455 : 1 ≤ (m376.1 10) := by omega
                          clear g291 g292 g293 g294 g295 h287 u297 u298 q304_7 q304_9 q304_11 ic303 h311 h313
                          refine Tm_lv (a := [(0, .ref 189), (3, .int (i32 (m.1 24)))]) rfl rfl ⟨rfl, rfl, trivial⟩ ?_
                          exact J296_120 (mO m376 [] []) Tm376 (fr_m (fr_s Fm376 (fr_m (fr_s Fm301 (fr_m (fr_s Fm286 (fr_m (fr_s Fm269 (fr_m (fr_s Fm247 (fr_m (fr_s Fm220 (fr_m fr_0 rfl rfl) rfl rfl) rfl rfl) rfl rfl) rfl rfl) rfl rfl) rfl rfl) rfl rfl) rfl rfl) rfl rfl) rfl rfl) rfl rfl) rfl rfl) (show ∀ k, (m376.2 14) k + (m376.2 15) k ≤ 4000 by rewrite [(show (m376.2 14) = (m247.2 14) from ((fr2 Fm376 14 rfl).trans ((fr2 Fm301 14 rfl).trans ((fr2 Fm286 14 rfl).trans (fr2 Fm269 14 rfl))))), (show (m376.2 15) = (m247.2 15) from ((fr2 Fm376 15 rfl).trans ((fr2 Fm301 15 rfl).trans ((fr2 Fm286 15 rfl).trans (fr2 Fm269 15 rfl)))))]; first | exact hNM | (intro k; rw [hE1, hE2]; have := hNM0 k; have h7 := hLx1; unfold upI; split <;> omega)) (show (m.1 24) ≤ 15 by omega) (show 0 ≤ (m.1 24) ∧ (m.1 24) ≤ 16 by omega) (show 1 ≤ (m376.1 10) by omega)
                    · skip
                      refine T_ld 267 (.ref 189) rfl (fun _ => rfl) ?_
                      refine T_ld 268 (.int (i32 (m.1 24))) rfl (fun _ => rfl) ?_
                      refine T_call 271 241 [.ref 189, .int (i32 (m.1 24))] [] rfl (fun _ => rfl) rfl (c_takeExtract w (mO m301 [] []) c N D (by omega) Tm301 (m.1 24) (r32 (by omega) (by omega)) (show LxP (m301.1 7) (m301.1 8) (m301.1 9) (m301.1 6) (m301.1 10) by rewrite [(show (m301.1 6) = (m.1 6) from ((fr1 Fm301 6 rfl).trans ((fr1 Fm286 6 rfl).trans ((fr1 Fm269 6 rfl).trans ((fr1 Fm247 6 rfl).trans (fr1 Fm220 6 rfl))))))]; first | exact hLx | exact (fun _ => hLx (by omega)) | (intro h9; exfalso; omega)) (show ∀ k, (m301.2 14) k + (m301.2 15) k ≤ 4000 by rewrite [(show (m301.2 14) = (m247.2 14) from ((fr2 Fm301 14 rfl).trans ((fr2 Fm286 14 rfl).trans (fr2 Fm269 14 rfl)))), (show (m301.2 15) = (m247.2 15) from ((fr2 Fm301 15 rfl).trans ((fr2 Fm286 15 rfl).trans (fr2 Fm269 15 rfl))))]; assumption) (show 0 ≤ (m.1 24) ∧ (m.1 24) ≤ 15 by omega) (fun _ => ⟨(show PN (m301.1 13) (m301.1 19) (m301.1 20) (m301.1 21) (m301.1 22) (m301.1 23) (m301.1 25) (m301.1 26) (m301.2 16) (m301.2 17) by rewrite [(show (m301.1 13) = (m247.1 13) from ((fr1 Fm301 13 rfl).trans ((fr1 Fm286 13 rfl).trans (fr1 Fm269 13 rfl)))), (show (m301.1 19) = (m.1 19) from ((fr1 Fm301 19 rfl).trans ((fr1 Fm286 19 rfl).trans ((fr1 Fm269 19 rfl).trans ((fr1 Fm247 19 rfl).trans (fr1 Fm220 19 rfl)))))), (show (m301.1 20) = (m.1 20) from ((fr1 Fm301 20 rfl).trans ((fr1 Fm286 20 rfl).trans ((fr1 Fm269 20 rfl).trans ((fr1 Fm247 20 rfl).trans (fr1 Fm220 20 rfl)))))), (show (m301.1 21) = (m.1 21) from ((fr1 Fm301 21 rfl).trans ((fr1 Fm286 21 rfl).trans ((fr1 Fm269 21 rfl).trans ((fr1 Fm247 21 rfl).trans (fr1 Fm220 21 rfl)))))), (show (m301.1 22) = (m.1 22) from ((fr1 Fm301 22 rfl).trans ((fr1 Fm286 22 rfl).trans ((fr1 Fm269 22 rfl).trans ((fr1 Fm247 22 rfl).trans (fr1 Fm220 22 rfl)))))), (show (m301.1 23) = (m247.1 23) from ((fr1 Fm301 23 rfl).trans ((fr1 Fm286 23 rfl).trans (fr1 Fm269 23 rfl)))), (show (m301.1 25) = (m.1 25) from ((fr1 Fm301 25 rfl).trans ((fr1 Fm286 25 rfl).trans ((fr1 Fm269 25 rfl).trans ((fr1 Fm247 25 rfl).trans (fr1 Fm220 25 rfl)))))), (show (m301.1 26) = (m.1 26) from ((fr1 Fm301 26 rfl).trans ((fr1 Fm286 26 rfl).trans ((fr1 Fm269 26 rfl).trans ((fr1 Fm247 26 rfl).trans (fr1 Fm220 26 rfl)))))), (show (m301.2 16) = (m247.2 16) from ((fr2 Fm301 16 rfl).trans ((fr2 Fm286 16 rfl).trans (fr2 Fm269 16 rfl)))), (show (m301.2 17) = (m247.2 17) from ((fr2 Fm301 17 rfl).trans ((fr2 Fm286 17 rfl).trans (fr2 Fm269 17 rfl))))]; assumption), (show (m301.1 7) ≠ 0 by omega)⟩)) (fun rr456 k457 => ?_)
                      obtain ⟨m458, Tm458, Fm458, h459, h460, c461, rfl⟩ := k457
                      refine ⟨_, _, rfl, ?_⟩
                      refine T_nb (st' := []) rfl ?_
                      have g462 : 0 ≤ m458.1 7 ∧ m458.1 7 ≤ 330 := Tm458.1 7
                      have g463 : 0 ≤ m458.1 8 ∧ m458.1 8 ≤ 4000 := Tm458.1 8
                      have g464 : 0 ≤ m458.1 9 ∧ m458.1 9 ≤ 4000 := Tm458.1 9
                      have g465 : 0 ≤ m458.1 10 ∧ m458.1 10 ≤ 8 := Tm458.1 10
                      have g466 : (-1) ≤ m458.1 11 ∧ m458.1 11 ≤ 4000 := Tm458.1 11
                      by_cases hf467 : (m458.1 10) = 0
                      · skip
                        replace h459 : (m301.1 10) = 0 := h459 hf467
                        replace h460 : LxP (m458.1 7) (m458.1 8) (m458.1 9) (m301.1 6) (m458.1 10) := h460
                        rewrite [(show (m301.1 6) = (m.1 6) from ((fr1 Fm301 6 rfl).trans ((fr1 Fm286 6 rfl).trans ((fr1 Fm269 6 rfl).trans ((fr1 Fm247 6 rfl).trans (fr1 Fm220 6 rfl))))))] at h460
                        have hLx := h460
                        have c468 := c461 hf467
                        replace c468 : (m301.1 8) + 1 ≤ (m458.1 8) := c468
                        clear c461
                        have u469 : (m.1 8) + 1 ≤ (m458.1 8) := by omega
                        have u470 : (m.1 8) + 1 ≤ (m458.1 8) := by omega
                        have u471 : (m.1 23) ≤ (m247.1 23) := by omega
                        have u472 : (m.1 28) ≤ (m.1 28) := by omega
                        clear g291 g292 g293 g294 g295 h287 u297 u298 q304_7 q304_9 q304_11 ic303 h311
                        refine T_goto 249 rfl (fun _ => rfl) ?_
                        exact ih307 (mO m458 [] []) Tm458 (fr_m (fr_s Fm458 (fr_m (fr_s Fm301 (fr_m fr_0 rfl rfl) rfl rfl) rfl rfl) rfl rfl) rfl rfl) (show LxP (m458.1 7) (m458.1 8) (m458.1 9) (m.1 6) (m458.1 10) by exact hLx) (fun _ => (show (m.1 8) + 1 ≤ (m458.1 8) by omega)) (show 1000000 * (8 - (m458.1 10)) + (4000 - (m458.1 8)) < (n306 : Int) by omega)
                      · skip
                        clear c461
                        clear h459
                        replace h460 : LxP (m458.1 7) (m458.1 8) (m458.1 9) (m301.1 6) (m458.1 10) := h460
                        rewrite [(show (m301.1 6) = (m.1 6) from ((fr1 Fm301 6 rfl).trans ((fr1 Fm286 6 rfl).trans ((fr1 Fm269 6 rfl).trans ((fr1 Fm247 6 rfl).trans (fr1 Fm220 6 rfl))))))] at h460
                        have hLx := h460
                        have hf473 : 1 ≤ (m458.1 10) := by omega
                        clear g291 g292 g293 g294 g295 h287 u297 u298 q304_7 q304_9 q304_11 ic303 h311
                        refine Tm_lv (a := [(0, .ref 189), (3, .int (i32 (m.1 24)))]) rfl rfl ⟨rfl, rfl, trivial⟩ ?_
                        exact J271_146 (mO m458 [] []) Tm458 (fr_m (fr_s Fm458 (fr_m (fr_s Fm301 (fr_m (fr_s Fm286 (fr_m (fr_s Fm269 (fr_m (fr_s Fm247 (fr_m (fr_s Fm220 (fr_m fr_0 rfl rfl) rfl rfl) rfl rfl) rfl rfl) rfl rfl) rfl rfl) rfl rfl) rfl rfl) rfl rfl) rfl rfl) rfl rfl) rfl rfl) rfl rfl) (show ∀ k, (m458.2 14) k + (m458.2 15) k ≤ 4000 by rewrite [(show (m458.2 14) = (m247.2 14) from ((fr2 Fm458 14 rfl).trans ((fr2 Fm301 14 rfl).trans ((fr2 Fm286 14 rfl).trans (fr2 Fm269 14 rfl))))), (show (m458.2 15) = (m247.2 15) from ((fr2 Fm458 15 rfl).trans ((fr2 Fm301 15 rfl).trans ((fr2 Fm286 15 rfl).trans (fr2 Fm269 15 rfl)))))]; first | exact hNM | (intro k; rw [hE1, hE2]; have := hNM0 k; have h7 := hLx1; unfold upI; split <;> omega)) (show (m.1 24) ≤ 15 by omega) (show 0 ≤ (m.1 24) ∧ (m.1 24) ≤ 16 by omega) (show 1 ≤ (m458.1 10) by omega)
                  · skip
                    clear c305
                    have hf474 : 1 ≤ (m301.1 10) := by omega
                    refine T_gf 253 (.int (i32 (m301.1 10))) rfl rfl rfl rfl rfl rfl ?_
                    refine T_if 274 256 rfl rfl rfl (r32 (by omega) (by omega)) (fun (h475 : (m301.1 10) ≠ 0) => ?_) (fun (h475 : ¬ ((m301.1 10) ≠ 0)) => by exfalso; omega)
                    refine T_gf 278 (.int (i32 (m301.1 10))) rfl rfl rfl rfl rfl rfl ?_
                    refine T_if 282 281 rfl rfl rfl (r32 (by omega) (by omega)) (fun (h476 : (m301.1 10) ≤ 0) => by exfalso; omega) (fun (h476 : ¬ ((m301.1 10) ≤ 0)) => ?_)
                    refine T_ret rfl (fun _ => rfl) ?_
                    exact ⟨(mO m301 [] []), Tm301, (fr_m (fr_s Fm301 (fr_m (fr_s Fm286 (fr_m (fr_s Fm269 (fr_m (fr_s Fm247 (fr_m (fr_s Fm220 (fr_m fr_0 rfl rfl) rfl rfl) rfl rfl) rfl rfl) rfl rfl) rfl rfl) rfl rfl) rfl rfl) rfl rfl) rfl rfl) rfl rfl), (show (m301.1 10) = 0 → (m.1 10) = 0 by omega), (show LxP (m301.1 7) (m301.1 8) (m301.1 9) (m.1 6) (m301.1 10) by first | (first | exact hLx | exact (fun _ => hLx (by omega)) | (intro h9; exfalso; omega)) | (exfalso; omega)), (show ∀ k, (m301.2 14) k + (m301.2 15) k ≤ 4000 by rewrite [(show (m301.2 14) = (m247.2 14) from ((fr2 Fm301 14 rfl).trans ((fr2 Fm286 14 rfl).trans (fr2 Fm269 14 rfl)))), (show (m301.2 15) = (m247.2 15) from ((fr2 Fm301 15 rfl).trans ((fr2 Fm286 15 rfl).trans (fr2 Fm269 15 rfl))))]; first | (first | exact hNM | (intro k; rw [hE1, hE2]; have := hNM k; have h7 := hLx0 hf0; unfold upI; split <;> omega)) | (exfalso; omega)), (fun (h : (m301.1 10) = 0) => absurd h (by omega)), rfl⟩
              refine Tm_lv (a := [(0, .ref 189), (1, .int (i32 so)), (2, .int (i32 v246)), (3, .int (i32 (m.1 24)))]) rfl rfl ⟨rfl, rfl, rfl, rfl, trivial⟩ ?_
              exact L249_302 ((1000000 * (8 - (m286.1 10)) + (4000 - (m286.1 8)) : Int) + 1).toNat (mO m286 [] []) Tm286 (fr_m fr_0 rfl rfl) (show LxP (m286.1 7) (m286.1 8) (m286.1 9) (m.1 6) (m286.1 10) by exact hLx) (fun _ => (show (m.1 8) + 1 ≤ (m286.1 8) by omega)) (show 1000000 * (8 - (m286.1 10)) + (4000 - (m286.1 8)) < ((((1000000 * (8 - (m286.1 10)) + (4000 - (m286.1 8)) : Int) + 1).toNat : Nat) : Int) by omega)
            · skip
              replace h287 : LxP (m286.1 7) (m286.1 8) (m286.1 9) (m269.1 6) (m286.1 10) := h287
              rewrite [(show (m269.1 6) = (m.1 6) from ((fr1 Fm269 6 rfl).trans ((fr1 Fm247 6 rfl).trans (fr1 Fm220 6 rfl))))] at h287
              have hLx := h287
              clear h288
              replace h289 : (m269.1 8) ≤ (m286.1 8) := h289
              clear h290
              have hf477 : 1 ≤ (m286.1 10) := by omega
              clear g274 g275 g276 g277 g278 h270 h272 u280 u281 h289
              refine Tm_lv (a := [(0, .ref 189), (3, .int (i32 (m.1 24)))]) rfl rfl ⟨rfl, rfl, trivial⟩ ?_
              exact J249_157 (mO m286 [] []) Tm286 (fr_m (fr_s Fm286 (fr_m (fr_s Fm269 (fr_m (fr_s Fm247 (fr_m (fr_s Fm220 (fr_m fr_0 rfl rfl) rfl rfl) rfl rfl) rfl rfl) rfl rfl) rfl rfl) rfl rfl) rfl rfl) rfl rfl) (show ∀ k, (m286.2 14) k + (m286.2 15) k ≤ 4000 by rewrite [(show (m286.2 14) = (m247.2 14) from ((fr2 Fm286 14 rfl).trans (fr2 Fm269 14 rfl))), (show (m286.2 15) = (m247.2 15) from ((fr2 Fm286 15 rfl).trans (fr2 Fm269 15 rfl)))]; first | exact hNM | (intro k; rw [hE1, hE2]; have := hNM0 k; have h7 := hLx1; unfold upI; split <;> omega)) (show (m.1 24) ≤ 15 by omega) (show 0 ≤ (m.1 24) ∧ (m.1 24) ≤ 16 by omega) (show 1 ≤ (m286.1 10) by omega)
          · skip
            replace h270 : LxP (m269.1 7) (m269.1 8) (m269.1 9) (m247.1 6) (m269.1 10) := h270
            rewrite [(show (m247.1 6) = (m.1 6) from ((fr1 Fm247 6 rfl).trans (fr1 Fm220 6 rfl)))] at h270
            have hLx := h270
            clear h271
            replace h272 : (m247.1 8) ≤ (m269.1 8) := h272
            rewrite [(show (m247.1 8) = (m220.1 8) from (fr1 Fm247 8 rfl))] at h272
            clear h273
            have hf478 : 1 ≤ (m269.1 10) := by omega
            clear g225 g227 g228 g229 h221 h235 h236 h240 q257_10 q257_11 ic249
            refine Tm_lv (a := [(0, .ref 189), (3, .int (i32 (m.1 24)))]) rfl rfl ⟨rfl, rfl, trivial⟩ ?_
            exact J243_168 (mO m269 [] []) Tm269 (fr_m (fr_s Fm269 (fr_m (fr_s Fm247 (fr_m (fr_s Fm220 (fr_m fr_0 rfl rfl) rfl rfl) rfl rfl) rfl rfl) rfl rfl) rfl rfl) rfl rfl) (show ∀ k, (m269.2 14) k + (m269.2 15) k ≤ 4000 by rewrite [(show (m269.2 14) = (m247.2 14) from (fr2 Fm269 14 rfl)), (show (m269.2 15) = (m247.2 15) from (fr2 Fm269 15 rfl))]; first | exact hNM | (intro k; rw [hE1, hE2]; have := hNM0 k; have h7 := hLx1; unfold upI; split <;> omega)) (show (m.1 24) ≤ 15 by omega) (show 0 ≤ (m.1 24) ∧ (m.1 24) ≤ 16 by omega) (show 1 ≤ (m269.1 10) by omega)
        refine T_ld 36 (.int (i32 so)) rfl (fun _ => rfl) ?_
        refine T_ld 37 (.int (i32 5)) rfl (fun _ => rfl) ?_
        refine T_icmp 87 40 rfl rfl rfl (r32 (by omega) (by omega)) ⟨by decide, by decide⟩ (fun (h479 : so ≠ 5) => ?_) (fun (h479 : ¬ (so ≠ 5)) => ?_)
        · skip
          refine T_ld 88 (.int (i32 so)) rfl (fun _ => rfl) ?_
          refine T_ld 89 (.int (i32 (-1))) rfl (fun _ => rfl) ?_
          refine T_icmp 113 92 rfl rfl rfl (r32 (by omega) (by omega)) ⟨by decide, by decide⟩ (fun (h480 : so ≠ (-1)) => ?_) (fun (h480 : ¬ (so ≠ (-1))) => ?_)
          · skip
            refine T_ld 114 (.int (i32 so)) rfl (fun _ => rfl) ?_
            refine T_ld 115 (.int (i32 (-1))) rfl (fun _ => rfl) ?_
            refine T_icmp 140 118 rfl rfl rfl (r32 (by omega) (by omega)) ⟨by decide, by decide⟩ (fun (h481 : so = (-1)) => ?_) (fun (h481 : ¬ (so = (-1))) => ?_)
            · skip
              refine T_gf 144 (.int (i32 (m220.1 10))) rfl rfl rfl rfl rfl rfl ?_
              refine T_if 148 147 rfl rfl rfl (r32 (by omega) (by omega)) (fun (h482 : (m220.1 10) ≤ 0) => ?_) (fun (h482 : ¬ ((m220.1 10) ≤ 0)) => by exfalso; omega)
              have hd15 : (m.1 24) ≤ 15 := by first | omega | (have := SOp_lt pSO (s := (m.1 23)) (by omega) (by omega) (by omega); omega)
              refine T_ld 149 (.int (i32 so)) rfl (fun _ => rfl) ?_
              refine T_ld 150 (.int (i32 (-1))) rfl (fun _ => rfl) ?_
              refine T_icmp 179 153 rfl rfl rfl (r32 (by omega) (by omega)) ⟨by decide, by decide⟩ (fun (h483 : so ≠ (-1)) => by exfalso; omega) (fun (h483 : ¬ (so ≠ (-1))) => ?_)
              refine T_gf 157 (.ref 207) rfl rfl rfl rfl rfl rfl ?_
              refine T_ld 158 (.int (i32 (m.1 23))) rfl (fun _ => rfl) ?_
              refine T_gf 162 (.int (i32 (m220.1 8))) rfl rfl rfl rfl rfl rfl ?_
              have G484 : ∀ j, 0 ≤ (upI (m.2 37) (m.1 23) (m220.1 8)) j ∧ (upI (m.2 37) (m.1 23) (m220.1 8)) j ≤ 4000 := upI_rg (hT.2.1 37) ⟨by omega, by omega⟩
              refine T_iast (a' := [(37, upI (m.2 37) (m.1 23) (m220.1 8))]) 163 37 (m.2 37) rfl rfl rfl (by omega) (show (m.1 23) < (16 : Int) by omega) (show (m220.2 37) = (m.2 37) from (fr2 Fm220 37 rfl)) rfl ?_
              refine T_ld 164 (.ref 189) rfl (fun _ => rfl) ?_
              refine T_ld 165 (.int (i32 5)) rfl (fun _ => rfl) ?_
              refine T_ld 166 (.int (i32 (m.1 23))) rfl (fun _ => rfl) ?_
              refine T_call 169 231 [.ref 189, .int (i32 5), .int (i32 (m.1 23))] [] rfl (fun _ => rfl) rfl (d_enter w (mO m220 [] [(37, upI (m.2 37) (m.1 23) (m220.1 8))]) c N D (by omega) (Ty_mO Tm220 rfl rfl trivial ⟨G484, trivial⟩) 5 (m.1 23) ⟨by decide, by decide⟩ (r32 (by omega) (by omega)) (show (m220.1 13) ≤ 119 by rewrite [(show (m220.1 13) = (m.1 13) from (fr1 Fm220 13 rfl))]; omega) (show 1 ≤ (5 : Int) ∧ (5 : Int) ≤ 7 by omega) (show 0 ≤ (m.1 23) ∧ (m.1 23) ≤ 15 by omega)) (fun rr485 k486 => ?_)
              obtain ⟨m487, Tm487, Fm487, h488, h489, h490, h491, h492, rfl⟩ := k486
              refine ⟨_, _, rfl, ?_⟩
              refine T_nb (st' := []) rfl ?_
              have g493 : 0 ≤ m487.1 13 ∧ m487.1 13 ≤ 120 := Tm487.1 13
              replace h488 : (m487.1 13) = (m220.1 13) + 1 := h488
              rewrite [(show (m220.1 13) = (m.1 13) from (fr1 Fm220 13 rfl))] at h488
              have hE0 := h488
              replace h489 : (m487.2 14) = upI (m220.2 14) (m220.1 13) (m220.1 8) := h489
              rewrite [(show (m220.2 14) = (m.2 14) from (fr2 Fm220 14 rfl)), (show (m220.1 13) = (m.1 13) from (fr1 Fm220 13 rfl))] at h489
              have hE1 := h489
              replace h490 : (m487.2 15) = upI (m220.2 15) (m220.1 13) (m220.1 9) := h490
              rewrite [(show (m220.2 15) = (m.2 15) from (fr2 Fm220 15 rfl)), (show (m220.1 13) = (m.1 13) from (fr1 Fm220 13 rfl))] at h490
              have hE2 := h490
              replace h491 : (m487.2 16) = upI (m220.2 16) (m220.1 13) (5 : Int) := h491
              rewrite [(show (m220.2 16) = (m.2 16) from (fr2 Fm220 16 rfl)), (show (m220.1 13) = (m.1 13) from (fr1 Fm220 13 rfl))] at h491
              have hE3 := h491
              replace h492 : (m487.2 17) = upI (m220.2 17) (m220.1 13) (m.1 23) := h492
              rewrite [(show (m220.2 17) = (m.2 17) from (fr2 Fm220 17 rfl)), (show (m220.1 13) = (m.1 13) from (fr1 Fm220 13 rfl))] at h492
              have hE4 := h492
              have u494 : (m.1 8) + 1 ≤ (m220.1 8) := by omega
              have u495 : (m.1 8) + 1 ≤ (m220.1 8) := by omega
              have u496 : (m.1 23) ≤ (m.1 23) := by omega
              have u497 : (m.1 28) ≤ (m.1 28) := by omega
              refine T_ld 170 (.ref 189) rfl (fun _ => rfl) ?_
              refine T_ld 171 (.ref 189) rfl (fun _ => rfl) ?_
              refine T_gf1 174 (.int (i32 (m.1 23))) rfl rfl (mfv_c (F := fun x => .int (i32 x)) rfl (show (m487.1 23) = (m.1 23) from ((fr1 Fm487 23 rfl).trans (fr1 Fm220 23 rfl)))) rfl ?_
              refine T_ld 175 (.int (i32 1)) rfl (fun _ => rfl) ?_
              refine T_iadd 176 rfl rfl ?_
              refine T_pf (l' := [(23, (m.1 23) + 1)]) 179 ((m.1 23) + 1) rfl rfl rfl rfl rfl rfl ?_
              have g498 : 0 ≤ (m.1 23) + 1 ∧ (m.1 23) + 1 ≤ 16 := ⟨by omega, by omega⟩
              refine Tm_lv (a := [(0, .ref 189), (1, .int (i32 so)), (2, .int (i32 (m.1 23)))]) rfl rfl ⟨rfl, rfl, rfl, trivial⟩ ?_
              exact J179_248 (m.1 23) (mO m487 [(23, (m.1 23) + 1)] []) (r32 (by omega) (by omega)) (Ty_mO Tm487 rfl rfl ⟨g498, trivial⟩ trivial) (fr_m (fr_s Fm487 (fr_m fr_0 rfl rfl) rfl rfl) rfl rfl) (show (m487.1 10) = 0 by rewrite [(show (m487.1 10) = (m220.1 10) from (fr1 Fm487 10 rfl))]; omega) (show ∀ k, (m487.2 14) k + (m487.2 15) k ≤ 4000 by first | exact hNM | (intro k; rw [hE1, hE2]; have := hNM k; unfold upI; split <;> omega)) (show SOp (upI (m.2 38) (m.1 23) (m.1 24)) ((m.1 23) + 1) ((m.1 24) + 1) by first | exact SOp_dec pSO (by omega) (by omega) (by omega) | exact SOp_nd pSO) (show PN (m487.1 13) (m.1 19) (m.1 20) (m.1 21) (m.1 22) ((m.1 23) + 1) (m.1 25) (m.1 26) (m487.2 16) (m487.2 17) by first | exact pPN | (rw [hE0, hE3, hE4]; exact PN_5 pPN (by omega))) (show 0 ≤ (m.1 23) ∧ (m.1 23) ≤ 15 by omega) (show (m.1 24) ≤ 15 by omega) (show (m.1 23) ≤ ((m.1 23) + 1) by omega)
            · skip
              refine T_ld 119 (.ref 189) rfl (fun _ => rfl) ?_
              refine T_gf 123 (.int (i32 (m.1 23))) rfl rfl rfl rfl (mfv_c (F := fun x => .int (i32 x)) rfl (show (m220.1 23) = (m.1 23) from (fr1 Fm220 23 rfl))) rfl ?_
              refine T_ld 125 (.int (i32 16)) rfl (fun _ => rfl) ?_
              refine T_icmp 132 128 rfl rfl rfl (r32 (by omega) (by omega)) ⟨by decide, by decide⟩ (fun (h499 : (m.1 23) ≠ 16) => ?_) (fun (h499 : ¬ ((m.1 23) ≠ 16)) => ?_)
              · skip
                refine T_ld 133 (.int (i32 3)) rfl (fun _ => rfl) ?_
                refine T_gf 137 (.int (i32 (m220.1 8))) rfl rfl rfl rfl rfl rfl ?_
                refine T_call 140 222 [.ref 189, .int (i32 3), .int (i32 (m220.1 8))] [] rfl (fun _ => rfl) rfl (d_wrong w (mO m220 [] []) c N D (by omega) Tm220 3 (m220.1 8) ⟨by decide, by decide⟩ (r32 (by omega) (by omega)) (show 1 ≤ (3 : Int) ∧ (3 : Int) ≤ 8 by omega) (show 0 ≤ (m220.1 8) ∧ (m220.1 8) ≤ 4000 by omega)) (fun rr500 k501 => ?_)
                obtain ⟨m502, Tm502, Fm502, h503, rfl⟩ := k501
                refine ⟨_, _, rfl, ?_⟩
                refine T_nb (st' := []) rfl ?_
                have g504 : 0 ≤ m502.1 10 ∧ m502.1 10 ≤ 8 := Tm502.1 10
                have g505 : (-1) ≤ m502.1 11 ∧ m502.1 11 ≤ 4000 := Tm502.1 11
                replace h503 : (0 < (m220.1 10) → (m502.1 10) = (m220.1 10) ∧ (m502.1 11) = (m220.1 11)) ∧ ((m220.1 10) ≤ 0 → (m502.1 10) = (3 : Int) ∧ (m502.1 11) = (m220.1 8)) := h503
                have hf506 : 1 ≤ (m502.1 10) := by omega
                clear g228 g229 h221 h235 h503
                refine Tm_lv (a := [(0, .ref 189), (1, .int (i32 so)), (2, .int (i32 (m.1 23)))]) rfl rfl ⟨rfl, rfl, rfl, trivial⟩ ?_
                exact J140_191 so (mO m502 [] []) (r32 (by omega) (by omega)) Tm502 (fr_m (fr_s Fm502 (fr_m (fr_s Fm220 (fr_m fr_0 rfl rfl) rfl rfl) rfl rfl) rfl rfl) rfl rfl) (show (-2147483648) ≤ so by omega) (show so ≤ 2147483647 by omega) (show ∀ k, (m.2 14) k + (m.2 15) k ≤ 4000 by first | exact hNM | (intro k; rw [hE1, hE2]; have := hNM0 k; have h7 := hLx1; unfold upI; split <;> omega)) (show 0 ≤ (m.1 23) ∧ (m.1 23) ≤ 16 by omega) (show 1 ≤ (m502.1 10) by omega)
              · skip
                refine T_ld 129 (.int (i32 4)) rfl (fun _ => rfl) ?_
                refine T_goto 133 rfl (fun _ => rfl) ?_
                refine T_gf 137 (.int (i32 (m220.1 8))) rfl rfl rfl rfl rfl rfl ?_
                refine T_call 140 222 [.ref 189, .int (i32 4), .int (i32 (m220.1 8))] [] rfl (fun _ => rfl) rfl (d_wrong w (mO m220 [] []) c N D (by omega) Tm220 4 (m220.1 8) ⟨by decide, by decide⟩ (r32 (by omega) (by omega)) (show 1 ≤ (4 : Int) ∧ (4 : Int) ≤ 8 by omega) (show 0 ≤ (m220.1 8) ∧ (m220.1 8) ≤ 4000 by omega)) (fun rr507 k508 => ?_)
                obtain ⟨m509, Tm509, Fm509, h510, rfl⟩ := k508
                refine ⟨_, _, rfl, ?_⟩
                refine T_nb (st' := []) rfl ?_
                have g511 : 0 ≤ m509.1 10 ∧ m509.1 10 ≤ 8 := Tm509.1 10
                have g512 : (-1) ≤ m509.1 11 ∧ m509.1 11 ≤ 4000 := Tm509.1 11
                replace h510 : (0 < (m220.1 10) → (m509.1 10) = (m220.1 10) ∧ (m509.1 11) = (m220.1 11)) ∧ ((m220.1 10) ≤ 0 → (m509.1 10) = (4 : Int) ∧ (m509.1 11) = (m220.1 8)) := h510
                have hf513 : 1 ≤ (m509.1 10) := by omega
                clear g228 g229 h221 h235 h510
                refine Tm_lv (a := [(0, .ref 189), (1, .int (i32 so)), (2, .int (i32 (m.1 23)))]) rfl rfl ⟨rfl, rfl, rfl, trivial⟩ ?_
                exact J140_191 so (mO m509 [] []) (r32 (by omega) (by omega)) Tm509 (fr_m (fr_s Fm509 (fr_m (fr_s Fm220 (fr_m fr_0 rfl rfl) rfl rfl) rfl rfl) rfl rfl) rfl rfl) (show (-2147483648) ≤ so by omega) (show so ≤ 2147483647 by omega) (show ∀ k, (m.2 14) k + (m.2 15) k ≤ 4000 by first | exact hNM | (intro k; rw [hE1, hE2]; have := hNM0 k; have h7 := hLx1; unfold upI; split <;> omega)) (show 0 ≤ (m.1 23) ∧ (m.1 23) ≤ 16 by omega) (show 1 ≤ (m509.1 10) by omega)
          · skip
            refine T_gf 96 (.int (i32 (m.1 23))) rfl rfl rfl rfl (mfv_c (F := fun x => .int (i32 x)) rfl (show (m220.1 23) = (m.1 23) from (fr1 Fm220 23 rfl))) rfl ?_
            refine T_ld 98 (.int (i32 16)) rfl (fun _ => rfl) ?_
            refine T_icmp 113 101 rfl rfl rfl (r32 (by omega) (by omega)) ⟨by decide, by decide⟩ (fun (h514 : (m.1 23) ≠ 16) => ?_) (fun (h514 : ¬ ((m.1 23) ≠ 16)) => ?_)
            · skip
              refine T_ld 114 (.int (i32 so)) rfl (fun _ => rfl) ?_
              refine T_ld 115 (.int (i32 (-1))) rfl (fun _ => rfl) ?_
              refine T_icmp 140 118 rfl rfl rfl (r32 (by omega) (by omega)) ⟨by decide, by decide⟩ (fun (h515 : so = (-1)) => ?_) (fun (h515 : ¬ (so = (-1))) => by exfalso; omega)
              refine T_gf 144 (.int (i32 (m220.1 10))) rfl rfl rfl rfl rfl rfl ?_
              refine T_if 148 147 rfl rfl rfl (r32 (by omega) (by omega)) (fun (h516 : (m220.1 10) ≤ 0) => ?_) (fun (h516 : ¬ ((m220.1 10) ≤ 0)) => by exfalso; omega)
              have hd15 : (m.1 24) ≤ 15 := by first | omega | (have := SOp_lt pSO (s := (m.1 23)) (by omega) (by omega) (by omega); omega)
              refine T_ld 149 (.int (i32 so)) rfl (fun _ => rfl) ?_
              refine T_ld 150 (.int (i32 (-1))) rfl (fun _ => rfl) ?_
              refine T_icmp 179 153 rfl rfl rfl (r32 (by omega) (by omega)) ⟨by decide, by decide⟩ (fun (h517 : so ≠ (-1)) => by exfalso; omega) (fun (h517 : ¬ (so ≠ (-1))) => ?_)
              refine T_gf 157 (.ref 207) rfl rfl rfl rfl rfl rfl ?_
              refine T_ld 158 (.int (i32 (m.1 23))) rfl (fun _ => rfl) ?_
              refine T_gf 162 (.int (i32 (m220.1 8))) rfl rfl rfl rfl rfl rfl ?_
              have G518 : ∀ j, 0 ≤ (upI (m.2 37) (m.1 23) (m220.1 8)) j ∧ (upI (m.2 37) (m.1 23) (m220.1 8)) j ≤ 4000 := upI_rg (hT.2.1 37) ⟨by omega, by omega⟩
              refine T_iast (a' := [(37, upI (m.2 37) (m.1 23) (m220.1 8))]) 163 37 (m.2 37) rfl rfl rfl (by omega) (show (m.1 23) < (16 : Int) by omega) (show (m220.2 37) = (m.2 37) from (fr2 Fm220 37 rfl)) rfl ?_
              refine T_ld 164 (.ref 189) rfl (fun _ => rfl) ?_
              refine T_ld 165 (.int (i32 5)) rfl (fun _ => rfl) ?_
              refine T_ld 166 (.int (i32 (m.1 23))) rfl (fun _ => rfl) ?_
              refine T_call 169 231 [.ref 189, .int (i32 5), .int (i32 (m.1 23))] [] rfl (fun _ => rfl) rfl (d_enter w (mO m220 [] [(37, upI (m.2 37) (m.1 23) (m220.1 8))]) c N D (by omega) (Ty_mO Tm220 rfl rfl trivial ⟨G518, trivial⟩) 5 (m.1 23) ⟨by decide, by decide⟩ (r32 (by omega) (by omega)) (show (m220.1 13) ≤ 119 by rewrite [(show (m220.1 13) = (m.1 13) from (fr1 Fm220 13 rfl))]; omega) (show 1 ≤ (5 : Int) ∧ (5 : Int) ≤ 7 by omega) (show 0 ≤ (m.1 23) ∧ (m.1 23) ≤ 15 by omega)) (fun rr519 k520 => ?_)
              obtain ⟨m521, Tm521, Fm521, h522, h523, h524, h525, h526, rfl⟩ := k520
              refine ⟨_, _, rfl, ?_⟩
              refine T_nb (st' := []) rfl ?_
              have g527 : 0 ≤ m521.1 13 ∧ m521.1 13 ≤ 120 := Tm521.1 13
              replace h522 : (m521.1 13) = (m220.1 13) + 1 := h522
              rewrite [(show (m220.1 13) = (m.1 13) from (fr1 Fm220 13 rfl))] at h522
              have hE0 := h522
              replace h523 : (m521.2 14) = upI (m220.2 14) (m220.1 13) (m220.1 8) := h523
              rewrite [(show (m220.2 14) = (m.2 14) from (fr2 Fm220 14 rfl)), (show (m220.1 13) = (m.1 13) from (fr1 Fm220 13 rfl))] at h523
              have hE1 := h523
              replace h524 : (m521.2 15) = upI (m220.2 15) (m220.1 13) (m220.1 9) := h524
              rewrite [(show (m220.2 15) = (m.2 15) from (fr2 Fm220 15 rfl)), (show (m220.1 13) = (m.1 13) from (fr1 Fm220 13 rfl))] at h524
              have hE2 := h524
              replace h525 : (m521.2 16) = upI (m220.2 16) (m220.1 13) (5 : Int) := h525
              rewrite [(show (m220.2 16) = (m.2 16) from (fr2 Fm220 16 rfl)), (show (m220.1 13) = (m.1 13) from (fr1 Fm220 13 rfl))] at h525
              have hE3 := h525
              replace h526 : (m521.2 17) = upI (m220.2 17) (m220.1 13) (m.1 23) := h526
              rewrite [(show (m220.2 17) = (m.2 17) from (fr2 Fm220 17 rfl)), (show (m220.1 13) = (m.1 13) from (fr1 Fm220 13 rfl))] at h526
              have hE4 := h526
              have u528 : (m.1 8) + 1 ≤ (m220.1 8) := by omega
              have u529 : (m.1 8) + 1 ≤ (m220.1 8) := by omega
              have u530 : (m.1 23) ≤ (m.1 23) := by omega
              have u531 : (m.1 28) ≤ (m.1 28) := by omega
              refine T_ld 170 (.ref 189) rfl (fun _ => rfl) ?_
              refine T_ld 171 (.ref 189) rfl (fun _ => rfl) ?_
              refine T_gf1 174 (.int (i32 (m.1 23))) rfl rfl (mfv_c (F := fun x => .int (i32 x)) rfl (show (m521.1 23) = (m.1 23) from ((fr1 Fm521 23 rfl).trans (fr1 Fm220 23 rfl)))) rfl ?_
              refine T_ld 175 (.int (i32 1)) rfl (fun _ => rfl) ?_
              refine T_iadd 176 rfl rfl ?_
              refine T_pf (l' := [(23, (m.1 23) + 1)]) 179 ((m.1 23) + 1) rfl rfl rfl rfl rfl rfl ?_
              have g532 : 0 ≤ (m.1 23) + 1 ∧ (m.1 23) + 1 ≤ 16 := ⟨by omega, by omega⟩
              refine Tm_lv (a := [(0, .ref 189), (1, .int (i32 so)), (2, .int (i32 (m.1 23)))]) rfl rfl ⟨rfl, rfl, rfl, trivial⟩ ?_
              exact J179_248 (m.1 23) (mO m521 [(23, (m.1 23) + 1)] []) (r32 (by omega) (by omega)) (Ty_mO Tm521 rfl rfl ⟨g532, trivial⟩ trivial) (fr_m (fr_s Fm521 (fr_m fr_0 rfl rfl) rfl rfl) rfl rfl) (show (m521.1 10) = 0 by rewrite [(show (m521.1 10) = (m220.1 10) from (fr1 Fm521 10 rfl))]; omega) (show ∀ k, (m521.2 14) k + (m521.2 15) k ≤ 4000 by first | exact hNM | (intro k; rw [hE1, hE2]; have := hNM k; unfold upI; split <;> omega)) (show SOp (upI (m.2 38) (m.1 23) (m.1 24)) ((m.1 23) + 1) ((m.1 24) + 1) by first | exact SOp_dec pSO (by omega) (by omega) (by omega) | exact SOp_nd pSO) (show PN (m521.1 13) (m.1 19) (m.1 20) (m.1 21) (m.1 22) ((m.1 23) + 1) (m.1 25) (m.1 26) (m521.2 16) (m521.2 17) by first | exact pPN | (rw [hE0, hE3, hE4]; exact PN_5 pPN (by omega))) (show 0 ≤ (m.1 23) ∧ (m.1 23) ≤ 15 by omega) (show (m.1 24) ≤ 15 by omega) (show (m.1 23) ≤ ((m.1 23) + 1) by omega)
            · skip
              refine T_ld 102 (.ref 189) rfl (fun _ => rfl) ?_
              refine T_ld 103 (.int (i32 4)) rfl (fun _ => rfl) ?_
              refine T_gf 107 (.int (i32 (m220.1 8))) rfl rfl rfl rfl rfl rfl ?_
              refine T_call 110 222 [.ref 189, .int (i32 4), .int (i32 (m220.1 8))] [] rfl (fun _ => rfl) rfl (d_wrong w (mO m220 [] []) c N D (by omega) Tm220 4 (m220.1 8) ⟨by decide, by decide⟩ (r32 (by omega) (by omega)) (show 1 ≤ (4 : Int) ∧ (4 : Int) ≤ 8 by omega) (show 0 ≤ (m220.1 8) ∧ (m220.1 8) ≤ 4000 by omega)) (fun rr533 k534 => ?_)
              obtain ⟨m535, Tm535, Fm535, h536, rfl⟩ := k534
              refine ⟨_, _, rfl, ?_⟩
              refine T_nb (st' := []) rfl ?_
              have g537 : 0 ≤ m535.1 10 ∧ m535.1 10 ≤ 8 := Tm535.1 10
              have g538 : (-1) ≤ m535.1 11 ∧ m535.1 11 ≤ 4000 := Tm535.1 11
              replace h536 : (0 < (m220.1 10) → (m535.1 10) = (m220.1 10) ∧ (m535.1 11) = (m220.1 11)) ∧ ((m220.1 10) ≤ 0 → (m535.1 10) = (4 : Int) ∧ (m535.1 11) = (m220.1 8)) := h536
              have hf539 : 1 ≤ (m535.1 10) := by omega
              clear g228 g229 h221 h235 h536
              refine T_goto 140 rfl (fun _ => rfl) ?_
              refine T_gf 144 (.int (i32 (m535.1 10))) rfl rfl rfl rfl rfl rfl ?_
              refine T_if 148 147 rfl rfl rfl (r32 (by omega) (by omega)) (fun (h540 : (m535.1 10) ≤ 0) => by exfalso; omega) (fun (h540 : ¬ ((m535.1 10) ≤ 0)) => ?_)
              refine T_ret rfl (fun _ => rfl) ?_
              exact ⟨(mO m535 [] []), Tm535, (fr_m (fr_s Fm535 (fr_m (fr_s Fm220 (fr_m fr_0 rfl rfl) rfl rfl) rfl rfl) rfl rfl) rfl rfl), (show (m535.1 10) = 0 → (m.1 10) = 0 by omega), (show LxP (m535.1 7) (m535.1 8) (m535.1 9) (m.1 6) (m535.1 10) by rewrite [(show (m535.1 7) = (m220.1 7) from (fr1 Fm535 7 rfl)), (show (m535.1 8) = (m220.1 8) from (fr1 Fm535 8 rfl)), (show (m535.1 9) = (m220.1 9) from (fr1 Fm535 9 rfl))]; first | (first | exact hLx | exact (fun _ => hLx (by omega)) | (intro h9; exfalso; omega)) | (exfalso; omega)), (show ∀ k, (m535.2 14) k + (m535.2 15) k ≤ 4000 by rewrite [(show (m535.2 14) = (m.2 14) from ((fr2 Fm535 14 rfl).trans (fr2 Fm220 14 rfl))), (show (m535.2 15) = (m.2 15) from ((fr2 Fm535 15 rfl).trans (fr2 Fm220 15 rfl)))]; first | (first | exact hNM | (intro k; rw [hE1, hE2]; have := hNM k; have h7 := hLx0 hf0; unfold upI; split <;> omega)) | (exfalso; omega)), (fun (h : (m535.1 10) = 0) => absurd h (by omega)), rfl⟩
        · skip
          refine T_ld 41 (.ref 189) rfl (fun _ => rfl) ?_
          refine T_call 44 237 [.ref 189] [] rfl (fun _ => rfl) rfl (d_whichHere w (mO m220 [] []) c N D (by omega) Tm220 (show 1 ≤ (m220.1 9) ∧ (m220.1 8) + (m220.1 9) ≤ (m220.1 6) by rewrite [(show (m220.1 6) = (m.1 6) from (fr1 Fm220 6 rfl))]; first | omega | (have h8 := hLx (by omega); omega)) (show ∀ k, (m220.2 14) k + (m220.2 15) k ≤ 4000 by rewrite [(show (m220.2 14) = (m.2 14) from (fr2 Fm220 14 rfl)), (show (m220.2 15) = (m.2 15) from (fr2 Fm220 15 rfl))]; first | exact hNM | exact p1) (show ∀ g k, isGH (m220.2 4) (m220.1 8) (m220.1 9) g → g < 0 → isFH (m220.2 4) (m220.2 14) (m220.2 15) (m220.1 8) (m220.1 9) (m220.1 13) k → 0 ≤ k by rewrite [(show (m220.2 4) = (m.2 4) from (fr2 Fm220 4 rfl)), (show (m220.2 14) = (m.2 14) from (fr2 Fm220 14 rfl)), (show (m220.2 15) = (m.2 15) from (fr2 Fm220 15 rfl)), (show (m220.1 13) = (m.1 13) from (fr1 Fm220 13 rfl))]; exact old_ok hSo (by omega))) (fun rr541 k542 => ?_)
          obtain ⟨wi, g543, h544, rfl⟩ := k542
          refine ⟨_, _, rfl, ?_⟩
          refine T_ns (st' := [.int (i32 wi)]) rfl ?_
          obtain ⟨g543a, g543b⟩ := g543
          replace h544 : ∃ g k, isGH (m220.2 4) (m220.1 8) (m220.1 9) g ∧ (g < 0 → isFH (m220.2 4) (m220.2 14) (m220.2 15) (m220.1 8) (m220.1 9) (m220.1 13) k) ∧ wi = whichV (m220.2 17) g k := h544
          rewrite [(show (m220.2 4) = (m.2 4) from (fr2 Fm220 4 rfl)), (show (m220.2 14) = (m.2 14) from (fr2 Fm220 14 rfl)), (show (m220.2 15) = (m.2 15) from (fr2 Fm220 15 rfl)), (show (m220.1 13) = (m.1 13) from (fr1 Fm220 13 rfl)), (show (m220.2 17) = (m.2 17) from (fr2 Fm220 17 rfl))] at h544
          have hWi := h544
          have u545 : (m.1 8) + 1 ≤ (m220.1 8) := by omega
          have u546 : (m.1 8) + 1 ≤ (m220.1 8) := by omega
          have u547 : (m.1 23) ≤ (m.1 23) := by omega
          have u548 : (m.1 28) ≤ (m.1 28) := by omega
          have hr5 : -2 ≤ wi ∧ wi < (m.1 23) := by
            rcases old_eq hSo hWi (by omega) with ⟨a, b, c⟩ | ⟨a, b⟩ | ⟨k, a, b, c, d⟩
            · omega
            · omega
            · have := PNl_5 pPN k a b (by omega)
              omega
          refine T_sto 45 [(2, .int (i32 wi)), (1, .int (i32 so)), (0, .ref 189)] rfl (fun _ => rfl) ?_
          refine T_ld 46 (.int (i32 wi)) rfl (fun _ => rfl) ?_
          refine T_if 58 49 rfl rfl rfl (r32 (by omega) (by omega)) (fun (h549 : wi < 0) => ?_) (fun (h549 : ¬ (wi < 0)) => ?_)
          · skip
            refine T_ld 59 (.ref 189) rfl (fun _ => rfl) ?_
            refine T_ld 60 (.int (i32 wi)) rfl (fun _ => rfl) ?_
            refine T_if 76 63 rfl rfl rfl (r32 (by omega) (by omega)) (fun (h550 : (0 : Int) ≤ wi) => by exfalso; omega) (fun (h550 : ¬ ((0 : Int) ≤ wi)) => ?_)
            refine T_gf 67 (.int (i32 (m.1 23))) rfl rfl rfl rfl (mfv_c (F := fun x => .int (i32 x)) rfl (show (m220.1 23) = (m.1 23) from (fr1 Fm220 23 rfl))) rfl ?_
            refine T_ld 69 (.int (i32 16)) rfl (fun _ => rfl) ?_
            refine T_icmp 76 72 rfl rfl rfl (r32 (by omega) (by omega)) ⟨by decide, by decide⟩ (fun (h551 : (m.1 23) ≠ 16) => ?_) (fun (h551 : ¬ ((m.1 23) ≠ 16)) => ?_)
            · skip
              refine T_ld 77 (.int (i32 3)) rfl (fun _ => rfl) ?_
              refine T_gf 81 (.int (i32 (m220.1 8))) rfl rfl rfl rfl rfl rfl ?_
              refine T_call 84 222 [.ref 189, .int (i32 3), .int (i32 (m220.1 8))] [] rfl (fun _ => rfl) rfl (d_wrong w (mO m220 [] []) c N D (by omega) Tm220 3 (m220.1 8) ⟨by decide, by decide⟩ (r32 (by omega) (by omega)) (show 1 ≤ (3 : Int) ∧ (3 : Int) ≤ 8 by omega) (show 0 ≤ (m220.1 8) ∧ (m220.1 8) ≤ 4000 by omega)) (fun rr552 k553 => ?_)
              obtain ⟨m554, Tm554, Fm554, h555, rfl⟩ := k553
              refine ⟨_, _, rfl, ?_⟩
              refine T_nb (st' := []) rfl ?_
              have g556 : 0 ≤ m554.1 10 ∧ m554.1 10 ≤ 8 := Tm554.1 10
              have g557 : (-1) ≤ m554.1 11 ∧ m554.1 11 ≤ 4000 := Tm554.1 11
              replace h555 : (0 < (m220.1 10) → (m554.1 10) = (m220.1 10) ∧ (m554.1 11) = (m220.1 11)) ∧ ((m220.1 10) ≤ 0 → (m554.1 10) = (3 : Int) ∧ (m554.1 11) = (m220.1 8)) := h555
              have hf558 : 1 ≤ (m554.1 10) := by omega
              clear g228 g229 h221 h235 h555
              refine Tm_lv (a := [(0, .ref 189), (1, .int (i32 so)), (2, .int (i32 wi))]) rfl rfl ⟨rfl, rfl, rfl, trivial⟩ ?_
              exact J84_205 so wi (mO m554 [] []) (r32 (by omega) (by omega)) (r32 (by omega) (by omega)) Tm554 (fr_m (fr_s Fm554 (fr_m (fr_s Fm220 (fr_m fr_0 rfl rfl) rfl rfl) rfl rfl) rfl rfl) rfl rfl) (show 5 ≤ so by omega) (show so ≤ 5 by omega) (show (-2147483648) ≤ wi by omega) (show wi ≤ 2147483647 by omega) (show ∀ k, (m.2 14) k + (m.2 15) k ≤ 4000 by first | exact hNM | (intro k; rw [hE1, hE2]; have := hNM0 k; have h7 := hLx1; unfold upI; split <;> omega)) (show 1 ≤ (m554.1 10) by omega)
            · skip
              refine T_ld 73 (.int (i32 4)) rfl (fun _ => rfl) ?_
              refine T_goto 77 rfl (fun _ => rfl) ?_
              refine T_gf 81 (.int (i32 (m220.1 8))) rfl rfl rfl rfl rfl rfl ?_
              refine T_call 84 222 [.ref 189, .int (i32 4), .int (i32 (m220.1 8))] [] rfl (fun _ => rfl) rfl (d_wrong w (mO m220 [] []) c N D (by omega) Tm220 4 (m220.1 8) ⟨by decide, by decide⟩ (r32 (by omega) (by omega)) (show 1 ≤ (4 : Int) ∧ (4 : Int) ≤ 8 by omega) (show 0 ≤ (m220.1 8) ∧ (m220.1 8) ≤ 4000 by omega)) (fun rr559 k560 => ?_)
              obtain ⟨m561, Tm561, Fm561, h562, rfl⟩ := k560
              refine ⟨_, _, rfl, ?_⟩
              refine T_nb (st' := []) rfl ?_
              have g563 : 0 ≤ m561.1 10 ∧ m561.1 10 ≤ 8 := Tm561.1 10
              have g564 : (-1) ≤ m561.1 11 ∧ m561.1 11 ≤ 4000 := Tm561.1 11
              replace h562 : (0 < (m220.1 10) → (m561.1 10) = (m220.1 10) ∧ (m561.1 11) = (m220.1 11)) ∧ ((m220.1 10) ≤ 0 → (m561.1 10) = (4 : Int) ∧ (m561.1 11) = (m220.1 8)) := h562
              have hf565 : 1 ≤ (m561.1 10) := by omega
              clear g228 g229 h221 h235 h562
              refine Tm_lv (a := [(0, .ref 189), (1, .int (i32 so)), (2, .int (i32 wi))]) rfl rfl ⟨rfl, rfl, rfl, trivial⟩ ?_
              exact J84_205 so wi (mO m561 [] []) (r32 (by omega) (by omega)) (r32 (by omega) (by omega)) Tm561 (fr_m (fr_s Fm561 (fr_m (fr_s Fm220 (fr_m fr_0 rfl rfl) rfl rfl) rfl rfl) rfl rfl) rfl rfl) (show 5 ≤ so by omega) (show so ≤ 5 by omega) (show (-2147483648) ≤ wi by omega) (show wi ≤ 2147483647 by omega) (show ∀ k, (m.2 14) k + (m.2 15) k ≤ 4000 by first | exact hNM | (intro k; rw [hE1, hE2]; have := hNM0 k; have h7 := hLx1; unfold upI; split <;> omega)) (show 1 ≤ (m561.1 10) by omega)
          · skip
            refine T_gf 53 (.ref 208) rfl rfl rfl rfl rfl rfl ?_
            refine T_ld 54 (.int (i32 wi)) rfl (fun _ => rfl) ?_
            refine T_iald 55 38 (m.2 38) rfl rfl rfl (by omega) (show wi < (16 : Int) by omega) (show (m220.2 38) = (m.2 38) from (fr2 Fm220 38 rfl)) ?_
            have e566 : (-1) ≤ (m.2 38) wi ∧ (m.2 38) wi ≤ 15 := (hT.2.1 38) wi
            refine T_if 140 58 rfl rfl rfl (r32 (by omega) (by omega)) (fun (h567 : (m.2 38) wi < 0) => ?_) (fun (h567 : ¬ ((m.2 38) wi < 0)) => ?_)
            · skip
              refine T_gf 144 (.int (i32 (m220.1 10))) rfl rfl rfl rfl rfl rfl ?_
              refine T_if 148 147 rfl rfl rfl (r32 (by omega) (by omega)) (fun (h568 : (m220.1 10) ≤ 0) => ?_) (fun (h568 : ¬ ((m220.1 10) ≤ 0)) => by exfalso; omega)
              have hd15 : (m.1 24) ≤ 15 := by first | omega | (have := SOp_lt pSO (s := wi) (by omega) (by omega) (by omega); omega)
              refine T_ld 149 (.int (i32 so)) rfl (fun _ => rfl) ?_
              refine T_ld 150 (.int (i32 (-1))) rfl (fun _ => rfl) ?_
              refine T_icmp 179 153 rfl rfl rfl (r32 (by omega) (by omega)) ⟨by decide, by decide⟩ (fun (h569 : so ≠ (-1)) => ?_) (fun (h569 : ¬ (so ≠ (-1))) => by exfalso; omega)
              refine Tm_lv (a := [(0, .ref 189), (1, .int (i32 so)), (2, .int (i32 wi))]) rfl rfl ⟨rfl, rfl, rfl, trivial⟩ ?_
              exact J179_248 wi (mO m220 [] []) (r32 (by omega) (by omega)) Tm220 (fr_m fr_0 rfl rfl) (show (m220.1 10) = 0 by omega) (show ∀ k, (m220.2 14) k + (m220.2 15) k ≤ 4000 by rewrite [(show (m220.2 14) = (m.2 14) from (fr2 Fm220 14 rfl)), (show (m220.2 15) = (m.2 15) from (fr2 Fm220 15 rfl))]; first | exact hNM | (intro k; rw [hE1, hE2]; have := hNM k; unfold upI; split <;> omega)) (show SOp (upI (m.2 38) wi (m.1 24)) (m220.1 23) ((m.1 24) + 1) by rewrite [(show (m220.1 23) = (m.1 23) from (fr1 Fm220 23 rfl))]; first | exact SOp_dec pSO (by omega) (by omega) (by omega) | exact SOp_nd pSO) (show PN (m220.1 13) (m.1 19) (m.1 20) (m.1 21) (m.1 22) (m220.1 23) (m.1 25) (m.1 26) (m220.2 16) (m220.2 17) by rewrite [(show (m220.1 13) = (m.1 13) from (fr1 Fm220 13 rfl)), (show (m220.1 23) = (m.1 23) from (fr1 Fm220 23 rfl)), (show (m220.2 16) = (m.2 16) from (fr2 Fm220 16 rfl)), (show (m220.2 17) = (m.2 17) from (fr2 Fm220 17 rfl))]; first | exact pPN | (rw [hE0, hE3, hE4]; exact PN_5 pPN (by omega))) (show 0 ≤ wi ∧ wi ≤ 15 by omega) (show (m.1 24) ≤ 15 by omega) (show (m.1 23) ≤ (m220.1 23) by rewrite [(show (m220.1 23) = (m.1 23) from (fr1 Fm220 23 rfl))]; omega)
            · skip
              refine T_ld 59 (.ref 189) rfl (fun _ => rfl) ?_
              refine T_ld 60 (.int (i32 wi)) rfl (fun _ => rfl) ?_
              refine T_if 76 63 rfl rfl rfl (r32 (by omega) (by omega)) (fun (h570 : (0 : Int) ≤ wi) => ?_) (fun (h570 : ¬ ((0 : Int) ≤ wi)) => by exfalso; omega)
              refine T_ld 77 (.int (i32 3)) rfl (fun _ => rfl) ?_
              refine T_gf 81 (.int (i32 (m220.1 8))) rfl rfl rfl rfl rfl rfl ?_
              refine T_call 84 222 [.ref 189, .int (i32 3), .int (i32 (m220.1 8))] [] rfl (fun _ => rfl) rfl (d_wrong w (mO m220 [] []) c N D (by omega) Tm220 3 (m220.1 8) ⟨by decide, by decide⟩ (r32 (by omega) (by omega)) (show 1 ≤ (3 : Int) ∧ (3 : Int) ≤ 8 by omega) (show 0 ≤ (m220.1 8) ∧ (m220.1 8) ≤ 4000 by omega)) (fun rr571 k572 => ?_)
              obtain ⟨m573, Tm573, Fm573, h574, rfl⟩ := k572
              refine ⟨_, _, rfl, ?_⟩
              refine T_nb (st' := []) rfl ?_
              have g575 : 0 ≤ m573.1 10 ∧ m573.1 10 ≤ 8 := Tm573.1 10
              have g576 : (-1) ≤ m573.1 11 ∧ m573.1 11 ≤ 4000 := Tm573.1 11
              replace h574 : (0 < (m220.1 10) → (m573.1 10) = (m220.1 10) ∧ (m573.1 11) = (m220.1 11)) ∧ ((m220.1 10) ≤ 0 → (m573.1 10) = (3 : Int) ∧ (m573.1 11) = (m220.1 8)) := h574
              have hf577 : 1 ≤ (m573.1 10) := by omega
              clear g228 g229 h221 h235 h574
              refine Tm_lv (a := [(0, .ref 189), (1, .int (i32 so)), (2, .int (i32 wi))]) rfl rfl ⟨rfl, rfl, rfl, trivial⟩ ?_
              exact J84_205 so wi (mO m573 [] []) (r32 (by omega) (by omega)) (r32 (by omega) (by omega)) Tm573 (fr_m (fr_s Fm573 (fr_m (fr_s Fm220 (fr_m fr_0 rfl rfl) rfl rfl) rfl rfl) rfl rfl) rfl rfl) (show 5 ≤ so by omega) (show so ≤ 5 by omega) (show (-2147483648) ≤ wi by omega) (show wi ≤ 2147483647 by omega) (show ∀ k, (m.2 14) k + (m.2 15) k ≤ 4000 by first | exact hNM | (intro k; rw [hE1, hE2]; have := hNM0 k; have h7 := hLx1; unfold upI; split <;> omega)) (show 1 ≤ (m573.1 10) by omega)
      · skip
        refine T_ld 21 (.ref 189) rfl (fun _ => rfl) ?_
        refine T_call 24 226 [.ref 189] [] rfl (fun _ => rfl) rfl (d_bad w (mO m220 [] []) c N D (by omega) Tm220 ) (fun rr578 k579 => ?_)
        obtain ⟨m580, Tm580, Fm580, h581, rfl⟩ := k579
        refine ⟨_, _, rfl, ?_⟩
        refine T_nb (st' := []) rfl ?_
        have g582 : 0 ≤ m580.1 10 ∧ m580.1 10 ≤ 8 := Tm580.1 10
        have g583 : (-1) ≤ m580.1 11 ∧ m580.1 11 ≤ 4000 := Tm580.1 11
        replace h581 : (0 < (m220.1 10) → (m580.1 10) = (m220.1 10) ∧ (m580.1 11) = (m220.1 11)) ∧ ((m220.1 10) ≤ 0 → (m580.1 10) = 1 ∧ (m580.1 11) = (m220.1 8)) := h581
        have hf584 : 1 ≤ (m580.1 10) := by omega
        clear g228 g229 h221 h235 h581
        refine T_ret rfl (fun _ => rfl) ?_
        exact ⟨(mO m580 [] []), Tm580, (fr_m (fr_s Fm580 (fr_m (fr_s Fm220 (fr_m fr_0 rfl rfl) rfl rfl) rfl rfl) rfl rfl) rfl rfl), (show (m580.1 10) = 0 → (m.1 10) = 0 by omega), (show LxP (m580.1 7) (m580.1 8) (m580.1 9) (m.1 6) (m580.1 10) by rewrite [(show (m580.1 7) = (m220.1 7) from (fr1 Fm580 7 rfl)), (show (m580.1 8) = (m220.1 8) from (fr1 Fm580 8 rfl)), (show (m580.1 9) = (m220.1 9) from (fr1 Fm580 9 rfl))]; first | (first | exact hLx | exact (fun _ => hLx (by omega)) | (intro h9; exfalso; omega)) | (exfalso; omega)), (show ∀ k, (m580.2 14) k + (m580.2 15) k ≤ 4000 by rewrite [(show (m580.2 14) = (m.2 14) from ((fr2 Fm580 14 rfl).trans (fr2 Fm220 14 rfl))), (show (m580.2 15) = (m.2 15) from ((fr2 Fm580 15 rfl).trans (fr2 Fm220 15 rfl)))]; first | (first | exact hNM | (intro k; rw [hE1, hE2]; have := hNM k; have h7 := hLx0 hf0; unfold upI; split <;> omega)) | (exfalso; omega)), (fun (h : (m580.1 10) = 0) => absurd h (by omega)), rfl⟩
    · skip
      replace h221 : LxP (m220.1 7) (m220.1 8) (m220.1 9) (m.1 6) (m220.1 10) := h221
      have hLx := h221
      clear h222
      replace h223 : (m.1 8) ≤ (m220.1 8) := h223
      clear h224
      have hf585 : 1 ≤ (m220.1 10) := by omega
      refine T_gf 8 (.int (i32 (m220.1 10))) rfl rfl rfl rfl rfl rfl ?_
      refine T_if 12 11 rfl rfl rfl (r32 (by omega) (by omega)) (fun (h586 : (m220.1 10) ≤ 0) => by exfalso; omega) (fun (h586 : ¬ ((m220.1 10) ≤ 0)) => ?_)
      refine T_ret rfl (fun _ => rfl) ?_
      exact ⟨(mO m220 [] []), Tm220, (fr_m (fr_s Fm220 (fr_m fr_0 rfl rfl) rfl rfl) rfl rfl), (show (m220.1 10) = 0 → (m.1 10) = 0 by omega), (show LxP (m220.1 7) (m220.1 8) (m220.1 9) (m.1 6) (m220.1 10) by first | (first | exact hLx | exact (fun _ => hLx (by omega)) | (intro h9; exfalso; omega)) | (exfalso; omega)), (show ∀ k, (m220.2 14) k + (m220.2 15) k ≤ 4000 by rewrite [(show (m220.2 14) = (m.2 14) from (fr2 Fm220 14 rfl)), (show (m220.2 15) = (m.2 15) from (fr2 Fm220 15 rfl))]; first | (first | exact hNM | (intro k; rw [hE1, hE2]; have := hNM k; have h7 := hLx0 hf0; unfold upI; split <;> omega)) | (exfalso; omega)), (fun (h : (m220.1 10) = 0) => absurd h (by omega)), rfl⟩
  · skip
    clear hC
    refine T_ld 1 (.ref 189) rfl (fun _ => rfl) ?_
    refine T_call 4 212 [.ref 189] [] rfl (fun _ => rfl) rfl (d_next w (mO m [] []) c N D (by omega) hT (show (m.1 10) = 0 → (m.1 8) + (m.1 9) ≤ (m.1 6) by first | omega | (intro h9; have h8 := hLx h9; omega))) (fun rr587 k588 => ?_)
    obtain ⟨m589, Tm589, Fm589, h590, h591, h592, h593, rfl⟩ := k588
    refine ⟨_, _, rfl, ?_⟩
    refine T_nb (st' := []) rfl ?_
    have g594 : 0 ≤ m589.1 7 ∧ m589.1 7 ≤ 330 := Tm589.1 7
    have g595 : 0 ≤ m589.1 8 ∧ m589.1 8 ≤ 4000 := Tm589.1 8
    have g596 : 0 ≤ m589.1 9 ∧ m589.1 9 ≤ 4000 := Tm589.1 9
    have g597 : 0 ≤ m589.1 10 ∧ m589.1 10 ≤ 8 := Tm589.1 10
    have g598 : (-1) ≤ m589.1 11 ∧ m589.1 11 ≤ 4000 := Tm589.1 11
    replace h590 : LxP (m589.1 7) (m589.1 8) (m589.1 9) (m.1 6) (m589.1 10) := h590
    replace h591 : (m589.1 10) = 0 → (m.1 10) = 0 := h591
    replace h592 : (m.1 8) ≤ (m589.1 8) := h592
    replace h593 : (m589.1 10) = 0 → (m.1 8) + (m.1 9) ≤ (m589.1 8) := h593
    have hf599 : 1 ≤ (m589.1 10) := by omega
    clear h591
    clear h593
    have hLx := h590
    refine T_gf 8 (.int (i32 (m589.1 10))) rfl rfl rfl rfl rfl rfl ?_
    refine T_if 12 11 rfl rfl rfl (r32 (by omega) (by omega)) (fun (h600 : (m589.1 10) ≤ 0) => by exfalso; omega) (fun (h600 : ¬ ((m589.1 10) ≤ 0)) => ?_)
    refine T_ret rfl (fun _ => rfl) ?_
    exact ⟨(mO m589 [] []), Tm589, (fr_m (fr_s Fm589 (fr_m fr_0 rfl rfl) rfl rfl) rfl rfl), (show (m589.1 10) = 0 → (m.1 10) = 0 by omega), (show LxP (m589.1 7) (m589.1 8) (m589.1 9) (m.1 6) (m589.1 10) by first | (first | exact hLx | exact (fun _ => hLx (by omega)) | (intro h9; exfalso; omega)) | (exfalso; omega)), (show ∀ k, (m589.2 14) k + (m589.2 15) k ≤ 4000 by rewrite [(show (m589.2 14) = (m.2 14) from (fr2 Fm589 14 rfl)), (show (m589.2 15) = (m.2 15) from (fr2 Fm589 15 rfl))]; first | (first | exact hNM | (intro k; rw [hE1, hE2]; have := hNM k; have h7 := hLx0 hf0; unfold upI; split <;> omega)) | (exfalso; omega)), (fun (h : (m589.1 10) = 0) => absurd h (by omega)), rfl⟩
