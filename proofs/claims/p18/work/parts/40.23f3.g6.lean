def fF_readExpr : List Nat := [7, 8, 9, 10, 11, 12, 28, 69, 70, 71, 72, 73, 74, 75]
def fA_readExpr : List Nat := [65, 66, 67, 68, 76, 77, 78, 79, 80, 81, 82, 83, 84, 85, 86, 87, 88, 89, 90, 91, 92]
def Q_readExpr (m : mR) (c : Nat → Option am_C) (N : Nat) : ag_Re af_T → Prop := fun R => ∃ (M : mR), Ty M ∧ fr fF_readExpr fA_readExpr m M ∧ ((M.1 10) = 0 → (m.1 10) = 0) ∧ (LxP (M.1 7) (M.1 8) (M.1 9) (m.1 6) (M.1 10)) ∧ (M.1 10 = 0 → ((m.1 8) + 1 ≤ (M.1 8)) ∧ ((M.1 69) ≤ 64) ∧ ((m.1 28) ≤ (M.1 28)) ∧ (okc (M.2 65) (m.1 28) (M.1 28)) ∧ (CN (M.2 65) (M.2 67) (M.1 28)) ∧ (agr (m.2 65) (M.2 65) (m.1 28))) ∧ R = (.inl (none), (mhp M c, N), 0, 0)
set_option maxHeartbeats 3000000 in
theorem c_readExpr (w : wX) (m : mR) (c : Nat → Option am_C) (N D : Nat) (hD : 10 ≤ D) (hT : Ty m) (hLx0 : LxP (m.1 7) (m.1 8) (m.1 9) (m.1 6) (m.1 10)) (hNM0 : ∀ k, (m.2 14) k + (m.2 15) k ≤ 4000) (hFA0 : ∀ k, (m.2 31) k + (m.2 32) k ≤ 4000) (hPA0 : ∀ k, (m.2 47) k + (m.2 48) k ≤ 4000) (hC : m.1 10 = 0 → (PN (m.1 13) (m.1 19) (m.1 20) (m.1 21) (m.1 22) (m.1 23) (m.1 25) (m.1 26) (m.2 16) (m.2 17)) ∧ (CN (m.2 65) (m.2 67) (m.1 28))) : TC w D 244 [.ref 189] (mhp m c, N) (Q_readExpr m c N) := by
  obtain ⟨D, rfl⟩ : ∃ k, D = k + 1 := ⟨D - 1, by omega⟩
  have hLx := hLx0
  have hNM := hNM0
  have hFA := hFA0
  have hPA := hPA0
  have f7 : 0 ≤ m.1 7 ∧ m.1 7 ≤ 330 := hT.1 7
  have f8 : 0 ≤ m.1 8 ∧ m.1 8 ≤ 4000 := hT.1 8
  have f9 : 0 ≤ m.1 9 ∧ m.1 9 ≤ 4000 := hT.1 9
  have f10 : 0 ≤ m.1 10 ∧ m.1 10 ≤ 8 := hT.1 10
  have f28 : 0 ≤ m.1 28 ∧ m.1 28 ≤ 800 := hT.1 28
  have f69 : 0 ≤ m.1 69 ∧ m.1 69 ≤ 1024 := hT.1 69
  have f73 : 0 ≤ m.1 73 ∧ m.1 73 ≤ 60 := hT.1 73
  have f74 : 0 ≤ m.1 74 ∧ m.1 74 ≤ 24 := hT.1 74
  have f75 : 0 ≤ m.1 75 ∧ m.1 75 ≤ 3 := hT.1 75
  have f25 : 0 ≤ m.1 25 ∧ m.1 25 ≤ 16 := hT.1 25
  have f22 : 0 ≤ m.1 22 ∧ m.1 22 ≤ 8 := hT.1 22
  have f19 : 0 ≤ m.1 19 ∧ m.1 19 ≤ 12 := hT.1 19
  have f20 : 0 ≤ m.1 20 ∧ m.1 20 ≤ 12 := hT.1 20
  have f21 : 0 ≤ m.1 21 ∧ m.1 21 ≤ 16 := hT.1 21
  have f13 : 0 ≤ m.1 13 ∧ m.1 13 ≤ 120 := hT.1 13
  have f6 : 0 ≤ m.1 6 ∧ m.1 6 ≤ 4000 := hT.1 6
  have f23 : 0 ≤ m.1 23 ∧ m.1 23 ≤ 16 := hT.1 23
  have f26 : 0 ≤ m.1 26 ∧ m.1 26 ≤ 8 := hT.1 26
  refine Tc_of rfl ?_
  show TT w D pm_244 (0, [(0, .ref 189)], [], (mhp (mO m [] []) c, N), 0, 0) (Q_readExpr m c N)
  by_cases hf0 : m.1 10 = 0
  · skip
    obtain ⟨pPN, hCN⟩ := hC hf0
    have hAgC := agr_r (m.2 65) (m.1 28)
    refine T_ld 1 (.ref 189) rfl (fun _ => rfl) ?_
    refine T_ld 2 (.int (i32 0)) rfl (fun _ => rfl) ?_
    refine T_pf (l' := [(73, 0)]) 5 0 rfl rfl rfl rfl rfl rfl ?_
    refine T_ld 6 (.ref 189) rfl (fun _ => rfl) ?_
    refine T_ld 7 (.int (i32 0)) rfl (fun _ => rfl) ?_
    refine T_pf (l' := [(73, 0), (74, 0)]) 10 0 rfl rfl rfl rfl rfl rfl ?_
    refine T_ld 11 (.ref 189) rfl (fun _ => rfl) ?_
    refine T_ld 12 (.int (i32 0)) rfl (fun _ => rfl) ?_
    refine T_pf (l' := [(73, 0), (74, 0), (75, 0)]) 15 0 rfl rfl rfl rfl rfl rfl ?_
    refine T_ld 16 (.ref 189) rfl (fun _ => rfl) ?_
    have hXT : XT (m.2 65) (m.2 67) (m.2 76) (m.2 78) (m.2 79) (m.2 80) (m.1 28) (m.1 28) (0 : Int) (0 : Int) 0 := XT_new (by omega) hCN
    have hTop : (0 : Int) = 0 ∨ (m.2 76) ((0 : Int) - 1) = 2 ∨ ((m.2 76) ((0 : Int) - 1) = 0 ∧ (m.2 79) ((0 : Int) - 1) = 2) := Or.inl rfl
    refine T_call 19 245 [.ref 189] [] rfl (fun _ => rfl) rfl (c_beginChoice w (mO m [(73, 0), (74, 0), (75, 0)] []) c N D (by omega) (Ty_mO hT rfl rfl ⟨⟨(by omega : (0 : Int) ≤ 0), (by omega : (0 : Int) ≤ 60)⟩, ⟨(by omega : (0 : Int) ≤ 0), (by omega : (0 : Int) ≤ 24)⟩, ⟨(by omega : (0 : Int) ≤ 0), (by omega : (0 : Int) ≤ 3)⟩, trivial⟩ trivial) (m.1 28) 0 (fun _ => ⟨(show XT (m.2 65) (m.2 67) (m.2 76) (m.2 78) (m.2 79) (m.2 80) (m.1 28) (m.1 28) (0 : Int) (0 : Int) 0 by first | exact hXT | exact hXS.1), (show (0 : Int) = 0 ∨ (m.2 76) ((0 : Int) - 1) = 2 ∨ ((m.2 76) ((0 : Int) - 1) = 0 ∧ (m.2 79) ((0 : Int) - 1) = 2) by first | exact hTop | omega)⟩)) (fun rr1 k2 => ?_)
    obtain ⟨m3, Tm3, Fm3, h4, c5, rfl⟩ := k2
    refine ⟨_, _, rfl, ?_⟩
    refine T_nb (st' := []) rfl ?_
    have g6 : 0 ≤ m3.1 10 ∧ m3.1 10 ≤ 8 := Tm3.1 10
    have g7 : 0 ≤ m3.1 73 ∧ m3.1 73 ≤ 60 := Tm3.1 73
    have g8 : 0 ≤ m3.1 74 ∧ m3.1 74 ≤ 24 := Tm3.1 74
    have g9 : 0 ≤ m3.1 75 ∧ m3.1 75 ≤ 3 := Tm3.1 75
    by_cases hf10 : (m3.1 10) = 0
    · skip
      replace h4 : (m.1 10) = 0 := h4 hf10
      obtain ⟨c11, c12, c13⟩ := c5 hf10
      replace c11 : XS (m.2 65) (m.2 67) (m3.2 76) (m3.2 78) (m3.2 79) (m3.2 80) (m.1 28) (m.1 28) (m3.1 73) (m3.1 74) 0 := c11
      have hXS := c11
      replace c12 : (m3.1 73) = (0 : Int) + 1 := c12
      replace c13 : (m3.1 75) = 0 := c13
      clear c5
      have hAgC : agr (m.2 65) (m.2 65) (m.1 28) := by first | exact agr_r _ _ | exact hAgC | exact agr_t hAgC hAg (by omega)
      have u14 : (m.1 28) ≤ (m.1 28) := by omega
      have L19_16 : ∀ (n20 : Nat) (m15 : mR), Ty m15 → fr [7, 8, 9, 10, 11, 12, 28, 69, 70, 71, 72, 73, 74, 75] [65, 66, 67, 68, 76, 77, 78, 79, 80, 81, 82, 83, 84, 85, 86, 87, 88, 89, 90, 91, 92] (mO m3 [] []) m15 → (LxP (m15.1 7) (m15.1 8) (m15.1 9) (m.1 6) (m15.1 10)) → ((m15.1 10) = 0 → (XS (m15.2 65) (m15.2 67) (m15.2 76) (m15.2 78) (m15.2 79) (m15.2 80) (m.1 28) (m15.1 28) (m15.1 73) (m15.1 74) (um (m15.1 75))) ∧ (GU (m15.1 75) (m15.1 69)) ∧ (GH (m15.1 75) (m15.1 73)) ∧ ((m.1 8) ≤ (m15.1 8)) ∧ (GW (m15.1 75) (m.1 8) (m15.1 8)) ∧ ((m.1 28) ≤ (m15.1 28)) ∧ (agr (m.2 65) (m15.2 65) (m.1 28))) → 1000000 * (8 - (m15.1 10)) + 200 * (4000 - (m15.1 8)) + 3 * (m15.1 73) + (3 - (m15.1 75)) < (n20 : Int) → TT w D pm_244 (19, [(0, .ref 189)], [], (mhp (mO m15 [] []) c, N), 0, 0) (Q_readExpr m c N) := by
        intro n20
        induction n20 with
        | zero =>
          intro m15 Tm15 Fm15 ic17 c19 hmu
          have q18_7 : 0 ≤ m15.1 7 ∧ m15.1 7 ≤ 330 := Tm15.1 7
          have q18_8 : 0 ≤ m15.1 8 ∧ m15.1 8 ≤ 4000 := Tm15.1 8
          have q18_9 : 0 ≤ m15.1 9 ∧ m15.1 9 ≤ 4000 := Tm15.1 9
          have q18_10 : 0 ≤ m15.1 10 ∧ m15.1 10 ≤ 8 := Tm15.1 10
          have q18_28 : 0 ≤ m15.1 28 ∧ m15.1 28 ≤ 800 := Tm15.1 28
          have q18_69 : 0 ≤ m15.1 69 ∧ m15.1 69 ≤ 1024 := Tm15.1 69
          have q18_73 : 0 ≤ m15.1 73 ∧ m15.1 73 ≤ 60 := Tm15.1 73
          have q18_74 : 0 ≤ m15.1 74 ∧ m15.1 74 ≤ 24 := Tm15.1 74
          have q18_75 : 0 ≤ m15.1 75 ∧ m15.1 75 ≤ 3 := Tm15.1 75
          have hLx := ic17
          exfalso
          omega
        | succ n20 ih =>
          intro m15 Tm15 Fm15 ic17 c19 hmu
          have q18_7 : 0 ≤ m15.1 7 ∧ m15.1 7 ≤ 330 := Tm15.1 7
          have q18_8 : 0 ≤ m15.1 8 ∧ m15.1 8 ≤ 4000 := Tm15.1 8
          have q18_9 : 0 ≤ m15.1 9 ∧ m15.1 9 ≤ 4000 := Tm15.1 9
          have q18_10 : 0 ≤ m15.1 10 ∧ m15.1 10 ≤ 8 := Tm15.1 10
          have q18_28 : 0 ≤ m15.1 28 ∧ m15.1 28 ≤ 800 := Tm15.1 28
          have q18_69 : 0 ≤ m15.1 69 ∧ m15.1 69 ≤ 1024 := Tm15.1 69
          have q18_73 : 0 ≤ m15.1 73 ∧ m15.1 73 ≤ 60 := Tm15.1 73
          have q18_74 : 0 ≤ m15.1 74 ∧ m15.1 74 ≤ 24 := Tm15.1 74
          have q18_75 : 0 ≤ m15.1 75 ∧ m15.1 75 ≤ 3 := Tm15.1 75
          have hLx := ic17
          have ih21 := ih
          by_cases hf22 : (m15.1 10) = 0
          · skip
            obtain ⟨c23, c24, c25, c26, c27, c28, c29⟩ := c19 hf22
            clear c19
            have hXS := c23
            have hGU := c24
            have hGH := c25
            have hGW := c27
            have hAgC := c29
            refine T_gf 23 (.int (i32 (m15.1 10))) rfl rfl rfl rfl rfl rfl ?_
            refine T_if 85 26 rfl rfl rfl (r32 (by omega) (by omega)) (fun (h30 : (m15.1 10) ≠ 0) => by exfalso; omega) (fun (h30 : ¬ ((m15.1 10) ≠ 0)) => ?_)
            refine T_gf 30 (.int (i32 (m15.1 75))) rfl rfl rfl rfl rfl rfl ?_
            refine T_ld 31 (.int (i32 3)) rfl (fun _ => rfl) ?_
            refine T_icmp 85 34 rfl rfl rfl (r32 (by omega) (by omega)) ⟨by decide, by decide⟩ (fun (h31 : (m15.1 75) = 3) => ?_) (fun (h31 : ¬ ((m15.1 75) = 3)) => ?_)
            · skip
              refine T_ret rfl (fun _ => rfl) ?_
              exact ⟨(mO m15 [] []), Tm15, (fr_m (fr_s Fm15 (fr_m (fr_s Fm3 (fr_m fr_0 rfl rfl) rfl rfl) rfl rfl) rfl rfl) rfl rfl), (show (m15.1 10) = 0 → (m.1 10) = 0 by omega), (show LxP (m15.1 7) (m15.1 8) (m15.1 9) (m.1 6) (m15.1 10) by first | (first | exact hLx | exact (fun _ => hLx (by omega)) | (intro h9; exfalso; omega)) | (exfalso; omega)), (fun _ => ⟨(show (m.1 8) + 1 ≤ (m15.1 8) by first | (first | omega | exact hGW (by omega)) | (exfalso; omega)), (show (m15.1 69) ≤ 64 by first | (first | omega | exact hGU (by omega)) | (exfalso; omega)), (show (m.1 28) ≤ (m15.1 28) by omega), (show okc (m15.2 65) (m.1 28) (m15.1 28) by first | (exact hXS.1.1.1) | (exfalso; omega)), (show CN (m15.2 65) (m15.2 67) (m15.1 28) by first | (exact hXS.1.1.2.2) | (exfalso; omega)), (show agr (m.2 65) (m15.2 65) (m.1 28) by first | (exact hAgC) | (exfalso; omega))⟩), rfl⟩
            · skip
              refine T_gf 38 (.int (i32 (m15.1 75))) rfl rfl rfl rfl rfl rfl ?_
              by_cases h32 : (m15.1 75) = 0
              · skip
                refine T_cast 0 h32 ?_
                refine T_pop 64 rfl (fun _ => rfl) ?_
                have hgh := hGH (by omega)
                have hXS : XS (m15.2 65) (m15.2 67) (m15.2 76) (m15.2 78) (m15.2 79) (m15.2 80) (m.1 28) (m15.1 28) (m15.1 73) (m15.1 74) 0 := by
                  have H := hXS
                  rw [show um (m15.1 75) = 0 from if_pos (by omega)] at H
                  exact H
                refine T_ld 65 (.ref 189) rfl (fun _ => rfl) ?_
                refine T_call 68 247 [.ref 189] [] rfl (fun _ => rfl) rfl (c_wantUnit w (mO m15 [] []) c N D (by omega) Tm15 (m.1 28) (show LxP (m15.1 7) (m15.1 8) (m15.1 9) (m15.1 6) (m15.1 10) by rewrite [(show (m15.1 6) = (m.1 6) from ((fr1 Fm15 6 rfl).trans (fr1 Fm3 6 rfl)))]; first | exact hLx | exact (fun _ => hLx (by omega)) | (intro h9; exfalso; omega)) (show ∀ k, (m15.2 14) k + (m15.2 15) k ≤ 4000 by rewrite [(show (m15.2 14) = (m.2 14) from ((fr2 Fm15 14 rfl).trans (fr2 Fm3 14 rfl))), (show (m15.2 15) = (m.2 15) from ((fr2 Fm15 15 rfl).trans (fr2 Fm3 15 rfl)))]; assumption) (show ∀ k, (m15.2 31) k + (m15.2 32) k ≤ 4000 by rewrite [(show (m15.2 31) = (m.2 31) from ((fr2 Fm15 31 rfl).trans (fr2 Fm3 31 rfl))), (show (m15.2 32) = (m.2 32) from ((fr2 Fm15 32 rfl).trans (fr2 Fm3 32 rfl)))]; assumption) (show ∀ k, (m15.2 47) k + (m15.2 48) k ≤ 4000 by rewrite [(show (m15.2 47) = (m.2 47) from ((fr2 Fm15 47 rfl).trans (fr2 Fm3 47 rfl))), (show (m15.2 48) = (m.2 48) from ((fr2 Fm15 48 rfl).trans (fr2 Fm3 48 rfl)))]; assumption) (show (m15.1 10) = 0 by omega) ⟨(show PN (m15.1 13) (m15.1 19) (m15.1 20) (m15.1 21) (m15.1 22) (m15.1 23) (m15.1 25) (m15.1 26) (m15.2 16) (m15.2 17) by rewrite [(show (m15.1 13) = (m.1 13) from ((fr1 Fm15 13 rfl).trans (fr1 Fm3 13 rfl))), (show (m15.1 19) = (m.1 19) from ((fr1 Fm15 19 rfl).trans (fr1 Fm3 19 rfl))), (show (m15.1 20) = (m.1 20) from ((fr1 Fm15 20 rfl).trans (fr1 Fm3 20 rfl))), (show (m15.1 21) = (m.1 21) from ((fr1 Fm15 21 rfl).trans (fr1 Fm3 21 rfl))), (show (m15.1 22) = (m.1 22) from ((fr1 Fm15 22 rfl).trans (fr1 Fm3 22 rfl))), (show (m15.1 23) = (m.1 23) from ((fr1 Fm15 23 rfl).trans (fr1 Fm3 23 rfl))), (show (m15.1 25) = (m.1 25) from ((fr1 Fm15 25 rfl).trans (fr1 Fm3 25 rfl))), (show (m15.1 26) = (m.1 26) from ((fr1 Fm15 26 rfl).trans (fr1 Fm3 26 rfl))), (show (m15.2 16) = (m.2 16) from ((fr2 Fm15 16 rfl).trans (fr2 Fm3 16 rfl))), (show (m15.2 17) = (m.2 17) from ((fr2 Fm15 17 rfl).trans (fr2 Fm3 17 rfl)))]; assumption), (show XS (m15.2 65) (m15.2 67) (m15.2 76) (m15.2 78) (m15.2 79) (m15.2 80) (m.1 28) (m15.1 28) (m15.1 73) (m15.1 74) 0 by first | exact hXS | assumption), (show 1 ≤ (m15.1 73) by omega), (show (m15.1 75) = 0 by omega)⟩) (fun rr33 k34 => ?_)
                obtain ⟨m35, Tm35, Fm35, h36, h37, c38, rfl⟩ := k34
                refine ⟨_, _, rfl, ?_⟩
                refine T_nb (st' := []) rfl ?_
                have g39 : 0 ≤ m35.1 7 ∧ m35.1 7 ≤ 330 := Tm35.1 7
                have g40 : 0 ≤ m35.1 8 ∧ m35.1 8 ≤ 4000 := Tm35.1 8
                have g41 : 0 ≤ m35.1 9 ∧ m35.1 9 ≤ 4000 := Tm35.1 9
                have g42 : 0 ≤ m35.1 10 ∧ m35.1 10 ≤ 8 := Tm35.1 10
                have g43 : 0 ≤ m35.1 28 ∧ m35.1 28 ≤ 800 := Tm35.1 28
                have g44 : 0 ≤ m35.1 69 ∧ m35.1 69 ≤ 1024 := Tm35.1 69
                have g45 : 0 ≤ m35.1 73 ∧ m35.1 73 ≤ 60 := Tm35.1 73
                have g46 : 0 ≤ m35.1 74 ∧ m35.1 74 ≤ 24 := Tm35.1 74
                have g47 : 0 ≤ m35.1 75 ∧ m35.1 75 ≤ 3 := Tm35.1 75
                by_cases hf48 : (m35.1 10) = 0
                · skip
                  replace h36 : (m15.1 10) = 0 := h36 hf48
                  replace h37 : LxP (m35.1 7) (m35.1 8) (m35.1 9) (m15.1 6) (m35.1 10) := h37
                  rewrite [(show (m15.1 6) = (m.1 6) from ((fr1 Fm15 6 rfl).trans (fr1 Fm3 6 rfl)))] at h37
                  have hLx := h37
                  obtain ⟨c49, c50, c51, c52, c53, c54⟩ := c38 hf48
                  replace c49 : (m15.1 8) + 1 ≤ (m35.1 8) := c49
                  replace c50 : (m35.1 75) = 0 ∨ ((m35.1 75) = 1 ∧ (m35.1 69) ≤ 64) := c50
                  replace c51 : 1 ≤ (m35.1 73) := c51
                  replace c52 : (m15.1 28) ≤ (m35.1 28) := c52
                  replace c53 : XS (m35.2 65) (m35.2 67) (m35.2 76) (m35.2 78) (m35.2 79) (m35.2 80) (m.1 28) (m35.1 28) (m35.1 73) (m35.1 74) (um (m35.1 75)) := c53
                  have hXE := c53
                  replace c54 : agr (m15.2 65) (m35.2 65) (m15.1 28) := c54
                  have hAg := c54
                  clear c38
                  have hAgC : agr (m.2 65) (m35.2 65) (m.1 28) := by first | exact agr_r _ _ | exact hAgC | exact agr_t hAgC hAg (by omega)
                  have u55 : (m.1 28) ≤ (m35.1 28) := by omega
                  clear g6 g7 g8 g9 c11 c12 c13 q18_7 q18_9 q18_28 q18_69 q18_74 ic17 c23 c24 c28 c29 c52 c54
                  have hgw2 : GW (m35.1 75) (m.1 8) (m35.1 8) := fun _ => by omega
                  refine T_goto 19 rfl (fun _ => rfl) ?_
                  exact ih21 (mO m35 [] []) Tm35 (fr_m (fr_s Fm35 (fr_m (fr_s Fm15 (fr_m fr_0 rfl rfl) rfl rfl) rfl rfl) rfl rfl) rfl rfl) (show LxP (m35.1 7) (m35.1 8) (m35.1 9) (m.1 6) (m35.1 10) by first | exact hLx | exact (fun _ => hLx (by omega))) (fun _ => ⟨(show XS (m35.2 65) (m35.2 67) (m35.2 76) (m35.2 78) (m35.2 79) (m35.2 80) (m.1 28) (m35.1 28) (m35.1 73) (m35.1 74) (um (m35.1 75)) by first | exact hXE | (rw [show um (m35.1 75) = 1 from if_neg (by omega)]; exact hXS) | (rw [show um (m35.1 75) = 0 from if_pos (by omega)]; exact hXS)), (show GU (m35.1 75) (m35.1 69) by first | exact hGU | (unfold GU; omega)), (show GH (m35.1 75) (m35.1 73) by first | exact hGH | (unfold GH; omega)), (show (m.1 8) ≤ (m35.1 8) by omega), (show GW (m35.1 75) (m.1 8) (m35.1 8) by first | exact hgw2 | (unfold GW; omega)), (show (m.1 28) ≤ (m35.1 28) by omega), (show agr (m.2 65) (m35.2 65) (m.1 28) by exact hAgC)⟩) (show 1000000 * (8 - (m35.1 10)) + 200 * (4000 - (m35.1 8)) + 3 * (m35.1 73) + (3 - (m35.1 75)) < (n20 : Int) by omega)
                · skip
                  clear c38
                  clear h36
                  replace h37 : LxP (m35.1 7) (m35.1 8) (m35.1 9) (m15.1 6) (m35.1 10) := h37
                  rewrite [(show (m15.1 6) = (m.1 6) from ((fr1 Fm15 6 rfl).trans (fr1 Fm3 6 rfl)))] at h37
                  have hLx := h37
                  have hf56 : 1 ≤ (m35.1 10) := by omega
                  clear g6 g7 g8 g9 c11 c12 c13 q18_7 q18_9 q18_28 q18_69 q18_74 ic17 c23 c24 c28 c29
                  refine T_goto 19 rfl (fun _ => rfl) ?_
                  exact ih21 (mO m35 [] []) Tm35 (fr_m (fr_s Fm35 (fr_m (fr_s Fm15 (fr_m fr_0 rfl rfl) rfl rfl) rfl rfl) rfl rfl) rfl rfl) (show LxP (m35.1 7) (m35.1 8) (m35.1 9) (m.1 6) (m35.1 10) by first | exact hLx | exact (fun _ => hLx (by omega))) (fun (h : (m35.1 10) = 0) => absurd h (by omega)) (show 1000000 * (8 - (m35.1 10)) + 200 * (4000 - (m35.1 8)) + 3 * (m35.1 73) + (3 - (m35.1 75)) < (n20 : Int) by omega)
              by_cases h57 : (m15.1 75) = 1
              · skip
                refine T_cast 1 h57 ?_
                refine T_pop 71 rfl (fun _ => rfl) ?_
                have hgh := hGH (by omega)
                have hgu := hGU (by omega)
                have hXS : XS (m15.2 65) (m15.2 67) (m15.2 76) (m15.2 78) (m15.2 79) (m15.2 80) (m.1 28) (m15.1 28) (m15.1 73) (m15.1 74) 1 := by
                  have H := hXS
                  rw [show um (m15.1 75) = 1 from if_neg (by omega)] at H
                  exact H
                refine T_ld 72 (.ref 189) rfl (fun _ => rfl) ?_
                refine T_call 75 255 [.ref 189] [] rfl (fun _ => rfl) rfl (c_after w (mO m15 [] []) c N D (by omega) Tm15 (m.1 28) (show LxP (m15.1 7) (m15.1 8) (m15.1 9) (m15.1 6) (m15.1 10) by rewrite [(show (m15.1 6) = (m.1 6) from ((fr1 Fm15 6 rfl).trans (fr1 Fm3 6 rfl)))]; first | exact hLx | exact (fun _ => hLx (by omega)) | (intro h9; exfalso; omega)) (show (m15.1 10) = 0 by omega) ⟨(show XS (m15.2 65) (m15.2 67) (m15.2 76) (m15.2 78) (m15.2 79) (m15.2 80) (m.1 28) (m15.1 28) (m15.1 73) (m15.1 74) 1 by first | exact hXS | assumption), (show (m15.1 75) = 1 by omega), (show (m15.1 69) ≤ 64 by omega)⟩) (fun rr58 k59 => ?_)
                obtain ⟨m60, Tm60, Fm60, h61, h62, c63, rfl⟩ := k59
                refine ⟨_, _, rfl, ?_⟩
                refine T_nb (st' := []) rfl ?_
                have g64 : 0 ≤ m60.1 7 ∧ m60.1 7 ≤ 330 := Tm60.1 7
                have g65 : 0 ≤ m60.1 8 ∧ m60.1 8 ≤ 4000 := Tm60.1 8
                have g66 : 0 ≤ m60.1 9 ∧ m60.1 9 ≤ 4000 := Tm60.1 9
                have g67 : 0 ≤ m60.1 10 ∧ m60.1 10 ≤ 8 := Tm60.1 10
                have g68 : 0 ≤ m60.1 28 ∧ m60.1 28 ≤ 800 := Tm60.1 28
                have g69 : 0 ≤ m60.1 69 ∧ m60.1 69 ≤ 1024 := Tm60.1 69
                have g70 : 0 ≤ m60.1 75 ∧ m60.1 75 ≤ 3 := Tm60.1 75
                by_cases hf71 : (m60.1 10) = 0
                · skip
                  replace h61 : (m15.1 10) = 0 := h61 hf71
                  replace h62 : LxP (m60.1 7) (m60.1 8) (m60.1 9) (m15.1 6) (m60.1 10) := h62
                  rewrite [(show (m15.1 6) = (m.1 6) from ((fr1 Fm15 6 rfl).trans (fr1 Fm3 6 rfl)))] at h62
                  have hLx := h62
                  obtain ⟨c72, c73, c74, c75, c76⟩ := c63 hf71
                  replace c72 : ((m60.1 75) = 1 ∧ (m15.1 8) + 1 ≤ (m60.1 8)) ∨ ((m60.1 75) = 2 ∧ (m60.1 8) = (m15.1 8)) := c72
                  replace c73 : (m60.1 69) ≤ 64 := c73
                  replace c74 : (m15.1 28) ≤ (m60.1 28) := c74
                  replace c75 : XS (m60.2 65) (m60.2 67) (m15.2 76) (m15.2 78) (m15.2 79) (m15.2 80) (m.1 28) (m60.1 28) (m15.1 73) (m15.1 74) 1 := c75
                  have hXS := c75
                  replace c76 : agr (m15.2 65) (m60.2 65) (m15.1 28) := c76
                  have hAg := c76
                  clear c63
                  have hAgC : agr (m.2 65) (m60.2 65) (m.1 28) := by first | exact agr_r _ _ | exact hAgC | exact agr_t hAgC hAg (by omega)
                  have u77 : (m.1 28) ≤ (m60.1 28) := by omega
                  clear g6 g7 g8 g9 c11 c12 c13 q18_7 q18_9 q18_28 q18_69 ic17 c23 c24 c28 c29 c74 c76
                  have hgw2 : GW (m60.1 75) (m.1 8) (m60.1 8) := fun _ => by have hw := hGW (by omega); omega
                  refine T_goto 19 rfl (fun _ => rfl) ?_
                  exact ih21 (mO m60 [] []) Tm60 (fr_m (fr_s Fm60 (fr_m (fr_s Fm15 (fr_m fr_0 rfl rfl) rfl rfl) rfl rfl) rfl rfl) rfl rfl) (show LxP (m60.1 7) (m60.1 8) (m60.1 9) (m.1 6) (m60.1 10) by first | exact hLx | exact (fun _ => hLx (by omega))) (fun _ => ⟨(show XS (m60.2 65) (m60.2 67) (m60.2 76) (m60.2 78) (m60.2 79) (m60.2 80) (m.1 28) (m60.1 28) (m60.1 73) (m60.1 74) (um (m60.1 75)) by rewrite [(show (m60.2 76) = (m15.2 76) from (fr2 Fm60 76 rfl)), (show (m60.2 78) = (m15.2 78) from (fr2 Fm60 78 rfl)), (show (m60.2 79) = (m15.2 79) from (fr2 Fm60 79 rfl)), (show (m60.2 80) = (m15.2 80) from (fr2 Fm60 80 rfl)), (show (m60.1 73) = (m15.1 73) from (fr1 Fm60 73 rfl)), (show (m60.1 74) = (m15.1 74) from (fr1 Fm60 74 rfl))]; first | exact hXE | (rw [show um (m60.1 75) = 1 from if_neg (by omega)]; exact hXS) | (rw [show um (m60.1 75) = 0 from if_pos (by omega)]; exact hXS)), (show GU (m60.1 75) (m60.1 69) by first | exact hGU | (unfold GU; omega)), (show GH (m60.1 75) (m60.1 73) by rewrite [(show (m60.1 73) = (m15.1 73) from (fr1 Fm60 73 rfl))]; first | exact hGH | (unfold GH; omega)), (show (m.1 8) ≤ (m60.1 8) by omega), (show GW (m60.1 75) (m.1 8) (m60.1 8) by first | exact hgw2 | (unfold GW; omega)), (show (m.1 28) ≤ (m60.1 28) by omega), (show agr (m.2 65) (m60.2 65) (m.1 28) by exact hAgC)⟩) (show 1000000 * (8 - (m60.1 10)) + 200 * (4000 - (m60.1 8)) + 3 * (m60.1 73) + (3 - (m60.1 75)) < (n20 : Int) by rewrite [(show (m60.1 73) = (m15.1 73) from (fr1 Fm60 73 rfl))]; omega)
                · skip
                  clear c63
                  clear h61
                  replace h62 : LxP (m60.1 7) (m60.1 8) (m60.1 9) (m15.1 6) (m60.1 10) := h62
                  rewrite [(show (m15.1 6) = (m.1 6) from ((fr1 Fm15 6 rfl).trans (fr1 Fm3 6 rfl)))] at h62
                  have hLx := h62
                  have hf78 : 1 ≤ (m60.1 10) := by omega
                  clear g6 g7 g8 g9 c11 c12 c13 q18_7 q18_9 q18_28 q18_69 ic17 c23 c24 c28 c29
                  refine T_goto 19 rfl (fun _ => rfl) ?_
                  exact ih21 (mO m60 [] []) Tm60 (fr_m (fr_s Fm60 (fr_m (fr_s Fm15 (fr_m fr_0 rfl rfl) rfl rfl) rfl rfl) rfl rfl) rfl rfl) (show LxP (m60.1 7) (m60.1 8) (m60.1 9) (m.1 6) (m60.1 10) by first | exact hLx | exact (fun _ => hLx (by omega))) (fun (h : (m60.1 10) = 0) => absurd h (by omega)) (show 1000000 * (8 - (m60.1 10)) + 200 * (4000 - (m60.1 8)) + 3 * (m60.1 73) + (3 - (m60.1 75)) < (n20 : Int) by rewrite [(show (m60.1 73) = (m15.1 73) from (fr1 Fm60 73 rfl))]; omega)
              refine T_lkd 78 rfl rfl (r32 (by omega) (by omega)) (by simp [Op.lookupswitch.offset, show ¬ ((0 : Int) = (m15.1 75)) by omega, show ¬ ((1 : Int) = (m15.1 75)) by omega]) ?_
              have hgh := hGH (by omega)
              have hgu := hGU (by omega)
              have hXS : XS (m15.2 65) (m15.2 67) (m15.2 76) (m15.2 78) (m15.2 79) (m15.2 80) (m.1 28) (m15.1 28) (m15.1 73) (m15.1 74) 1 := by
                have H := hXS
                rw [show um (m15.1 75) = 1 from if_neg (by omega)] at H
                exact H
              refine T_ld 79 (.ref 189) rfl (fun _ => rfl) ?_
              refine T_call 82 257 [.ref 189] [] rfl (fun _ => rfl) rfl (c_goOn w (mO m15 [] []) c N D (by omega) Tm15 (m.1 28) (show LxP (m15.1 7) (m15.1 8) (m15.1 9) (m15.1 6) (m15.1 10) by rewrite [(show (m15.1 6) = (m.1 6) from ((fr1 Fm15 6 rfl).trans (fr1 Fm3 6 rfl)))]; first | exact hLx | exact (fun _ => hLx (by omega)) | (intro h9; exfalso; omega)) (show (m15.1 10) = 0 by omega) ⟨(show XS (m15.2 65) (m15.2 67) (m15.2 76) (m15.2 78) (m15.2 79) (m15.2 80) (m.1 28) (m15.1 28) (m15.1 73) (m15.1 74) 1 by first | exact hXS | assumption), (show 1 ≤ (m15.1 73) by omega), (show (m15.1 69) ≤ 64 by omega), (show (m15.1 75) = 2 by omega)⟩) (fun rr79 k80 => ?_)
              obtain ⟨m81, Tm81, Fm81, h82, h83, c84, rfl⟩ := k80
              refine ⟨_, _, rfl, ?_⟩
              refine T_nb (st' := []) rfl ?_
              have g85 : 0 ≤ m81.1 7 ∧ m81.1 7 ≤ 330 := Tm81.1 7
              have g86 : 0 ≤ m81.1 8 ∧ m81.1 8 ≤ 4000 := Tm81.1 8
              have g87 : 0 ≤ m81.1 9 ∧ m81.1 9 ≤ 4000 := Tm81.1 9
              have g88 : 0 ≤ m81.1 10 ∧ m81.1 10 ≤ 8 := Tm81.1 10
              have g89 : 0 ≤ m81.1 28 ∧ m81.1 28 ≤ 800 := Tm81.1 28
              have g90 : 0 ≤ m81.1 69 ∧ m81.1 69 ≤ 1024 := Tm81.1 69
              have g91 : 0 ≤ m81.1 73 ∧ m81.1 73 ≤ 60 := Tm81.1 73
              have g92 : 0 ≤ m81.1 74 ∧ m81.1 74 ≤ 24 := Tm81.1 74
              have g93 : 0 ≤ m81.1 75 ∧ m81.1 75 ≤ 3 := Tm81.1 75
              by_cases hf94 : (m81.1 10) = 0
              · skip
                replace h82 : (m15.1 10) = 0 := h82 hf94
                replace h83 : LxP (m81.1 7) (m81.1 8) (m81.1 9) (m15.1 6) (m81.1 10) := h83
                rewrite [(show (m15.1 6) = (m.1 6) from ((fr1 Fm15 6 rfl).trans (fr1 Fm3 6 rfl)))] at h83
                have hLx := h83
                obtain ⟨c95, c96, c97, c98, c99, c100⟩ := c84 hf94
                replace c95 : GPc (m15.1 8) (m81.1 8) (m81.1 75) (m81.1 73) (m15.1 73) := c95
                have hGP := c95
                replace c96 : GU (m81.1 75) (m81.1 69) := c96
                have hGU := c96
                replace c97 : GH (m81.1 75) (m81.1 73) := c97
                have hGH := c97
                replace c98 : (m15.1 28) ≤ (m81.1 28) := c98
                replace c99 : XS (m81.2 65) (m81.2 67) (m81.2 76) (m81.2 78) (m81.2 79) (m81.2 80) (m.1 28) (m81.1 28) (m81.1 73) (m81.1 74) (um (m81.1 75)) := c99
                have hXE := c99
                replace c100 : agr (m15.2 65) (m81.2 65) (m15.1 28) := c100
                have hAg := c100
                clear c84
                have hAgC : agr (m.2 65) (m81.2 65) (m.1 28) := by first | exact agr_r _ _ | exact hAgC | exact agr_t hAgC hAg (by omega)
                have u101 : (m.1 28) ≤ (m81.1 28) := by omega
                clear g6 g7 g8 g9 c11 c12 c13 q18_7 q18_9 q18_28 q18_69 q18_74 ic17 c23 c24 c28 c29 c98 c100
                have hle := GP_le hGP
                have hgm := GP_mu hGP (by omega) (by omega) (by omega)
                have hgw2 : GW (m81.1 75) (m.1 8) (m81.1 8) := GW_g hGP (hGW (by omega))
                refine T_goto 19 rfl (fun _ => rfl) ?_
                exact ih21 (mO m81 [] []) Tm81 (fr_m (fr_s Fm81 (fr_m (fr_s Fm15 (fr_m fr_0 rfl rfl) rfl rfl) rfl rfl) rfl rfl) rfl rfl) (show LxP (m81.1 7) (m81.1 8) (m81.1 9) (m.1 6) (m81.1 10) by first | exact hLx | exact (fun _ => hLx (by omega))) (fun _ => ⟨(show XS (m81.2 65) (m81.2 67) (m81.2 76) (m81.2 78) (m81.2 79) (m81.2 80) (m.1 28) (m81.1 28) (m81.1 73) (m81.1 74) (um (m81.1 75)) by first | exact hXE | (rw [show um (m81.1 75) = 1 from if_neg (by omega)]; exact hXS) | (rw [show um (m81.1 75) = 0 from if_pos (by omega)]; exact hXS)), (show GU (m81.1 75) (m81.1 69) by first | exact hGU | (unfold GU; omega)), (show GH (m81.1 75) (m81.1 73) by first | exact hGH | (unfold GH; omega)), (show (m.1 8) ≤ (m81.1 8) by omega), (show GW (m81.1 75) (m.1 8) (m81.1 8) by first | exact hgw2 | (unfold GW; omega)), (show (m.1 28) ≤ (m81.1 28) by omega), (show agr (m.2 65) (m81.2 65) (m.1 28) by exact hAgC)⟩) (show 1000000 * (8 - (m81.1 10)) + 200 * (4000 - (m81.1 8)) + 3 * (m81.1 73) + (3 - (m81.1 75)) < (n20 : Int) by omega)
              · skip
                clear c84
                clear h82
                replace h83 : LxP (m81.1 7) (m81.1 8) (m81.1 9) (m15.1 6) (m81.1 10) := h83
                rewrite [(show (m15.1 6) = (m.1 6) from ((fr1 Fm15 6 rfl).trans (fr1 Fm3 6 rfl)))] at h83
                have hLx := h83
                have hf102 : 1 ≤ (m81.1 10) := by omega
                clear g6 g7 g8 g9 c11 c12 c13 q18_7 q18_9 q18_28 q18_69 q18_74 ic17 c23 c24 c28 c29
                refine T_goto 19 rfl (fun _ => rfl) ?_
                exact ih21 (mO m81 [] []) Tm81 (fr_m (fr_s Fm81 (fr_m (fr_s Fm15 (fr_m fr_0 rfl rfl) rfl rfl) rfl rfl) rfl rfl) rfl rfl) (show LxP (m81.1 7) (m81.1 8) (m81.1 9) (m.1 6) (m81.1 10) by first | exact hLx | exact (fun _ => hLx (by omega))) (fun (h : (m81.1 10) = 0) => absurd h (by omega)) (show 1000000 * (8 - (m81.1 10)) + 200 * (4000 - (m81.1 8)) + 3 * (m81.1 73) + (3 - (m81.1 75)) < (n20 : Int) by omega)
          · skip
            clear c19
            have hf103 : 1 ≤ (m15.1 10) := by omega
            refine T_gf 23 (.int (i32 (m15.1 10))) rfl rfl rfl rfl rfl rfl ?_
            refine T_if 85 26 rfl rfl rfl (r32 (by omega) (by omega)) (fun (h104 : (m15.1 10) ≠ 0) => ?_) (fun (h104 : ¬ ((m15.1 10) ≠ 0)) => by exfalso; omega)
            refine T_ret rfl (fun _ => rfl) ?_
            exact ⟨(mO m15 [] []), Tm15, (fr_m (fr_s Fm15 (fr_m (fr_s Fm3 (fr_m fr_0 rfl rfl) rfl rfl) rfl rfl) rfl rfl) rfl rfl), (show (m15.1 10) = 0 → (m.1 10) = 0 by omega), (show LxP (m15.1 7) (m15.1 8) (m15.1 9) (m.1 6) (m15.1 10) by first | (first | exact hLx | exact (fun _ => hLx (by omega)) | (intro h9; exfalso; omega)) | (exfalso; omega)), (fun (h : (m15.1 10) = 0) => absurd h (by omega)), rfl⟩
      exact L19_16 ((1000000 * (8 - (m3.1 10)) + 200 * (4000 - (m.1 8)) + 3 * (m3.1 73) + (3 - (m3.1 75)) : Int) + 1).toNat (mO m3 [] []) Tm3 (fr_m fr_0 rfl rfl) (show LxP (m3.1 7) (m3.1 8) (m3.1 9) (m.1 6) (m3.1 10) by rewrite [(show (m3.1 7) = (m.1 7) from (fr1 Fm3 7 rfl)), (show (m3.1 8) = (m.1 8) from (fr1 Fm3 8 rfl)), (show (m3.1 9) = (m.1 9) from (fr1 Fm3 9 rfl))]; first | exact hLx | exact (fun _ => hLx (by omega))) (fun _ => ⟨(show XS (m3.2 65) (m3.2 67) (m3.2 76) (m3.2 78) (m3.2 79) (m3.2 80) (m.1 28) (m3.1 28) (m3.1 73) (m3.1 74) (um (m3.1 75)) by rewrite [(show (m3.2 65) = (m.2 65) from (fr2 Fm3 65 rfl)), (show (m3.2 67) = (m.2 67) from (fr2 Fm3 67 rfl)), (show (m3.1 28) = (m.1 28) from (fr1 Fm3 28 rfl))]; first | exact hXE | (rw [show um (m3.1 75) = 1 from if_neg (by omega)]; exact hXS) | (rw [show um (m3.1 75) = 0 from if_pos (by omega)]; exact hXS)), (show GU (m3.1 75) (m3.1 69) by rewrite [(show (m3.1 69) = (m.1 69) from (fr1 Fm3 69 rfl))]; first | exact hGU | (unfold GU; omega)), (show GH (m3.1 75) (m3.1 73) by first | exact hGH | (unfold GH; omega)), (show (m.1 8) ≤ (m3.1 8) by rewrite [(show (m3.1 8) = (m.1 8) from (fr1 Fm3 8 rfl))]; omega), (show GW (m3.1 75) (m.1 8) (m3.1 8) by rewrite [(show (m3.1 8) = (m.1 8) from (fr1 Fm3 8 rfl))]; first | exact hgw2 | (unfold GW; omega)), (show (m.1 28) ≤ (m3.1 28) by rewrite [(show (m3.1 28) = (m.1 28) from (fr1 Fm3 28 rfl))]; omega), (show agr (m.2 65) (m3.2 65) (m.1 28) by rewrite [(show (m3.2 65) = (m.2 65) from (fr2 Fm3 65 rfl))]; exact hAgC)⟩) (show 1000000 * (8 - (m3.1 10)) + 200 * (4000 - (m3.1 8)) + 3 * (m3.1 73) + (3 - (m3.1 75)) < ((((1000000 * (8 - (m3.1 10)) + 200 * (4000 - (m.1 8)) + 3 * (m3.1 73) + (3 - (m3.1 75)) : Int) + 1).toNat : Nat) : Int) by rewrite [(show (m3.1 8) = (m.1 8) from (fr1 Fm3 8 rfl))]; omega)
    · skip
      clear c5
      clear h4
      have hf105 : 1 ≤ (m3.1 10) := by omega
      refine T_gf 23 (.int (i32 (m3.1 10))) rfl rfl rfl rfl rfl rfl ?_
      refine T_if 85 26 rfl rfl rfl (r32 (by omega) (by omega)) (fun (h106 : (m3.1 10) ≠ 0) => ?_) (fun (h106 : ¬ ((m3.1 10) ≠ 0)) => by exfalso; omega)
      refine T_ret rfl (fun _ => rfl) ?_
      exact ⟨(mO m3 [] []), Tm3, (fr_m (fr_s Fm3 (fr_m fr_0 rfl rfl) rfl rfl) rfl rfl), (show (m3.1 10) = 0 → (m.1 10) = 0 by omega), (show LxP (m3.1 7) (m3.1 8) (m3.1 9) (m.1 6) (m3.1 10) by rewrite [(show (m3.1 7) = (m.1 7) from (fr1 Fm3 7 rfl)), (show (m3.1 8) = (m.1 8) from (fr1 Fm3 8 rfl)), (show (m3.1 9) = (m.1 9) from (fr1 Fm3 9 rfl))]; first | (first | exact hLx | exact (fun _ => hLx (by omega)) | (intro h9; exfalso; omega)) | (exfalso; omega)), (fun (h : (m3.1 10) = 0) => absurd h (by omega)), rfl⟩
  · skip
    clear hC
    refine T_ld 1 (.ref 189) rfl (fun _ => rfl) ?_
    refine T_ld 2 (.int (i32 0)) rfl (fun _ => rfl) ?_
    refine T_pf (l' := [(73, 0)]) 5 0 rfl rfl rfl rfl rfl rfl ?_
    refine T_ld 6 (.ref 189) rfl (fun _ => rfl) ?_
    refine T_ld 7 (.int (i32 0)) rfl (fun _ => rfl) ?_
    refine T_pf (l' := [(73, 0), (74, 0)]) 10 0 rfl rfl rfl rfl rfl rfl ?_
    refine T_ld 11 (.ref 189) rfl (fun _ => rfl) ?_
    refine T_ld 12 (.int (i32 0)) rfl (fun _ => rfl) ?_
    refine T_pf (l' := [(73, 0), (74, 0), (75, 0)]) 15 0 rfl rfl rfl rfl rfl rfl ?_
    refine T_ld 16 (.ref 189) rfl (fun _ => rfl) ?_
    refine T_call 19 245 [.ref 189] [] rfl (fun _ => rfl) rfl (c_beginChoice w (mO m [(73, 0), (74, 0), (75, 0)] []) c N D (by omega) (Ty_mO hT rfl rfl ⟨⟨(by omega : (0 : Int) ≤ 0), (by omega : (0 : Int) ≤ 60)⟩, ⟨(by omega : (0 : Int) ≤ 0), (by omega : (0 : Int) ≤ 24)⟩, ⟨(by omega : (0 : Int) ≤ 0), (by omega : (0 : Int) ≤ 3)⟩, trivial⟩ trivial) (m.1 28) 0 (fun (h : (m.1 10) = 0) => absurd h (by omega))) (fun rr107 k108 => ?_)
    obtain ⟨m109, Tm109, Fm109, h110, c111, rfl⟩ := k108
    refine ⟨_, _, rfl, ?_⟩
    refine T_nb (st' := []) rfl ?_
    have g112 : 0 ≤ m109.1 10 ∧ m109.1 10 ≤ 8 := Tm109.1 10
    have g113 : 0 ≤ m109.1 73 ∧ m109.1 73 ≤ 60 := Tm109.1 73
    have g114 : 0 ≤ m109.1 74 ∧ m109.1 74 ≤ 24 := Tm109.1 74
    have g115 : 0 ≤ m109.1 75 ∧ m109.1 75 ≤ 3 := Tm109.1 75
    replace h110 : (m109.1 10) = 0 → (m.1 10) = 0 := h110
    have hf116 : 1 ≤ (m109.1 10) := by omega
    clear c111
    clear h110
    refine T_gf 23 (.int (i32 (m109.1 10))) rfl rfl rfl rfl rfl rfl ?_
    refine T_if 85 26 rfl rfl rfl (r32 (by omega) (by omega)) (fun (h117 : (m109.1 10) ≠ 0) => ?_) (fun (h117 : ¬ ((m109.1 10) ≠ 0)) => by exfalso; omega)
    refine T_ret rfl (fun _ => rfl) ?_
    exact ⟨(mO m109 [] []), Tm109, (fr_m (fr_s Fm109 (fr_m fr_0 rfl rfl) rfl rfl) rfl rfl), (show (m109.1 10) = 0 → (m.1 10) = 0 by omega), (show LxP (m109.1 7) (m109.1 8) (m109.1 9) (m.1 6) (m109.1 10) by rewrite [(show (m109.1 7) = (m.1 7) from (fr1 Fm109 7 rfl)), (show (m109.1 8) = (m.1 8) from (fr1 Fm109 8 rfl)), (show (m109.1 9) = (m.1 9) from (fr1 Fm109 9 rfl))]; first | (first | exact hLx | exact (fun _ => hLx (by omega)) | (intro h9; exfalso; omega)) | (exfalso; omega)), (fun (h : (m109.1 10) = 0) => absurd h (by omega)), rfl⟩
