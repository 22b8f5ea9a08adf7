def fF_takeTable : List Nat := [7, 8, 9, 10, 11, 12, 13, 26, 28, 69, 70, 71, 72, 73, 74, 75]
def fA_takeTable : List Nat := [14, 15, 16, 17, 51, 52, 53, 54, 55, 56, 57, 58, 59, 65, 66, 67, 68, 76, 77, 78, 79, 80, 81, 82, 83, 84, 85, 86, 87, 88, 89, 90, 91, 92, 110, 111, 112, 113, 114, 115, 116]
def Q_takeTable (m : mR) (c : Nat → Option am_C) (N : Nat) : ag_Re af_T → Prop := fun R => ∃ (M : mR), Ty M ∧ fr fF_takeTable fA_takeTable m M ∧ ((M.1 10) = 0 → (m.1 10) = 0) ∧ (LxP (M.1 7) (M.1 8) (M.1 9) (m.1 6) (M.1 10)) ∧ (∀ k, (M.2 14) k + (M.2 15) k ≤ 4000) ∧ (M.1 10 = 0 → ((m.1 8) + 1 ≤ (M.1 8)) ∧ (PN (M.1 13) (m.1 19) (m.1 20) (m.1 21) (m.1 22) (m.1 23) (m.1 25) (M.1 26) (M.2 16) (M.2 17)) ∧ (CN (M.2 65) (M.2 67) (M.1 28)) ∧ ((m.1 28) ≤ (M.1 28)) ∧ (agr (m.2 65) (M.2 65) (m.1 28)) ∧ (TbP (M.2 65) (M.1 28) (m.1 25) (M.1 26) (M.2 51) (M.2 110) (M.2 111) (M.2 57) (M.2 53) (M.2 114) (M.2 58) (M.2 54))) ∧ R = (.inl (none), (mhp M c, N), 0, 0)
set_option maxHeartbeats 3000000 in
theorem c_takeTable (w : wX) (m : mR) (c : Nat → Option am_C) (N D : Nat) (hD : 11 ≤ D) (hT : Ty m) (hLx0 : LxP (m.1 7) (m.1 8) (m.1 9) (m.1 6) (m.1 10)) (hNM0 : ∀ k, (m.2 14) k + (m.2 15) k ≤ 4000) (hFA0 : ∀ k, (m.2 31) k + (m.2 32) k ≤ 4000) (hPA0 : ∀ k, (m.2 47) k + (m.2 48) k ≤ 4000) (hf0 : m.1 10 = 0) (hC : (PN (m.1 13) (m.1 19) (m.1 20) (m.1 21) (m.1 22) (m.1 23) (m.1 25) (m.1 26) (m.2 16) (m.2 17)) ∧ (CN (m.2 65) (m.2 67) (m.1 28)) ∧ (TbP (m.2 65) (m.1 28) (m.1 25) (m.1 26) (m.2 51) (m.2 110) (m.2 111) (m.2 57) (m.2 53) (m.2 114) (m.2 58) (m.2 54)) ∧ ((m.1 7) ≠ 0)) : TC w D 275 [.ref 189] (mhp m c, N) (Q_takeTable m c N) := by
  obtain ⟨D, rfl⟩ : ∃ k, D = k + 1 := ⟨D - 1, by omega⟩
  have hLx := hLx0
  have hNM := hNM0
  have hFA := hFA0
  have hPA := hPA0
  have f7 : 0 ≤ m.1 7 ∧ m.1 7 ≤ 330 := hT.1 7
  have f8 : 0 ≤ m.1 8 ∧ m.1 8 ≤ 4000 := hT.1 8
  have f9 : 0 ≤ m.1 9 ∧ m.1 9 ≤ 4000 := hT.1 9
  have f10 : 0 ≤ m.1 10 ∧ m.1 10 ≤ 8 := hT.1 10
  have f11 : (-1) ≤ m.1 11 ∧ m.1 11 ≤ 4000 := hT.1 11
  have f13 : 0 ≤ m.1 13 ∧ m.1 13 ≤ 120 := hT.1 13
  have f26 : 0 ≤ m.1 26 ∧ m.1 26 ≤ 8 := hT.1 26
  have f28 : 0 ≤ m.1 28 ∧ m.1 28 ≤ 800 := hT.1 28
  have f69 : 0 ≤ m.1 69 ∧ m.1 69 ≤ 1024 := hT.1 69
  have f25 : 0 ≤ m.1 25 ∧ m.1 25 ≤ 16 := hT.1 25
  have f22 : 0 ≤ m.1 22 ∧ m.1 22 ≤ 8 := hT.1 22
  have f19 : 0 ≤ m.1 19 ∧ m.1 19 ≤ 12 := hT.1 19
  have f20 : 0 ≤ m.1 20 ∧ m.1 20 ≤ 12 := hT.1 20
  have f21 : 0 ≤ m.1 21 ∧ m.1 21 ≤ 16 := hT.1 21
  have f6 : 0 ≤ m.1 6 ∧ m.1 6 ≤ 4000 := hT.1 6
  have f23 : 0 ≤ m.1 23 ∧ m.1 23 ≤ 16 := hT.1 23
  refine Tc_of rfl ?_
  show TT w D pm_275 (0, [(0, .ref 189)], [], (mhp (mO m [] []) c, N), 0, 0) (Q_takeTable m c N)
  obtain ⟨pPN, hCN, pTb, c1⟩ := hC
  have h7 := hLx (by omega)
  have hAgC := agr_r (m.2 65) (m.1 28)
  have hNM := hNM0
  have hn := pPN.1
  refine T_ld 1 (.ref 189) rfl (fun _ => rfl) ?_
  refine T_call 4 212 [.ref 189] [] rfl (fun _ => rfl) rfl (d_next w (mO m [] []) c N D (by omega) hT (show (m.1 10) = 0 → (m.1 8) + (m.1 9) ≤ (m.1 6) by first | omega | (intro h9; have h8 := hLx h9; omega))) (fun rr2 k3 => ?_)
  obtain ⟨m4, Tm4, Fm4, h5, h6, h7, h8, rfl⟩ := k3
  refine ⟨_, _, rfl, ?_⟩
  refine T_nb (st' := []) rfl ?_
  have g9 : 0 ≤ m4.1 7 ∧ m4.1 7 ≤ 330 := Tm4.1 7
  have g10 : 0 ≤ m4.1 8 ∧ m4.1 8 ≤ 4000 := Tm4.1 8
  have g11 : 0 ≤ m4.1 9 ∧ m4.1 9 ≤ 4000 := Tm4.1 9
  have g12 : 0 ≤ m4.1 10 ∧ m4.1 10 ≤ 8 := Tm4.1 10
  have g13 : (-1) ≤ m4.1 11 ∧ m4.1 11 ≤ 4000 := Tm4.1 11
  by_cases hf14 : (m4.1 10) = 0
  · skip
    replace h5 : LxP (m4.1 7) (m4.1 8) (m4.1 9) (m.1 6) (m4.1 10) := h5
    have hLx := h5
    replace h6 : (m.1 10) = 0 := h6 hf14
    replace h7 : (m.1 8) ≤ (m4.1 8) := h7
    replace h8 : (m.1 8) + (m.1 9) ≤ (m4.1 8) := h8 hf14
    have u15 : (m.1 8) + 1 ≤ (m4.1 8) := by omega
    have hAgC : agr (m.2 65) (m.2 65) (m.1 28) := by first | exact agr_r _ _ | exact hAgC | exact agr_t hAgC hAg (by omega)
    refine T_ld 5 (.ref 189) rfl (fun _ => rfl) ?_
    refine T_ld 7 (.int (i32 7)) rfl (fun _ => rfl) ?_
    refine T_gf 11 (.int (i32 (m.1 26))) rfl rfl rfl rfl (mfv_c (F := fun x => .int (i32 x)) rfl (show (m4.1 26) = (m.1 26) from (fr1 Fm4 26 rfl))) rfl ?_
    refine T_ld 13 (.int (i32 8)) rfl (fun _ => rfl) ?_
    refine T_call 16 225 [.ref 189, .int (i32 7), .int (i32 (m.1 26)), .int (i32 8)] [] rfl (fun _ => rfl) rfl (d_newName w (mO m4 [] []) c N D (by omega) Tm4 7 (m.1 26) 8 ⟨by decide, by decide⟩ (r32 (by omega) (by omega)) ⟨by decide, by decide⟩ (show LxP (m4.1 7) (m4.1 8) (m4.1 9) (m4.1 6) (m4.1 10) by rewrite [(show (m4.1 6) = (m.1 6) from (fr1 Fm4 6 rfl))]; first | exact hLx | (intro h9; exfalso; omega) | (intro h9; have h8 := hLx (by omega); omega)) (show ∀ k, (m4.2 14) k + (m4.2 15) k ≤ 4000 by rewrite [(show (m4.2 14) = (m.2 14) from (fr2 Fm4 14 rfl)), (show (m4.2 15) = (m.2 15) from (fr2 Fm4 15 rfl))]; first | exact p1 | exact hNM) (show (m4.1 10) = 0 → (m4.1 13) ≤ 119 by rewrite [(show (m4.1 13) = (m.1 13) from (fr1 Fm4 13 rfl))]; omega) (show 1 ≤ (7 : Int) ∧ (7 : Int) ≤ 7 by omega) (show 0 ≤ (m.1 26) ∧ ((m.1 26) ≠ (8 : Int) → (m.1 26) ≤ 15) by omega)) (fun rr16 k17 => ?_)
    obtain ⟨m18, nn, Tm18, Fm18, g19, h20, h21, h22, h23, h24, h25, h26, rfl⟩ := k17
    refine ⟨_, _, rfl, ?_⟩
    refine T_nb (st' := [.int (i32 nn)]) rfl ?_
    obtain ⟨g19a, g19b⟩ := g19
    have g27 : 0 ≤ m18.1 7 ∧ m18.1 7 ≤ 330 := Tm18.1 7
    have g28 : 0 ≤ m18.1 8 ∧ m18.1 8 ≤ 4000 := Tm18.1 8
    have g29 : 0 ≤ m18.1 9 ∧ m18.1 9 ≤ 4000 := Tm18.1 9
    have g30 : 0 ≤ m18.1 10 ∧ m18.1 10 ≤ 8 := Tm18.1 10
    have g31 : (-1) ≤ m18.1 11 ∧ m18.1 11 ≤ 4000 := Tm18.1 11
    have g32 : 0 ≤ m18.1 13 ∧ m18.1 13 ≤ 120 := Tm18.1 13
    by_cases hf33 : (m18.1 10) = 0
    · skip
      replace h20 : LxP (m18.1 7) (m18.1 8) (m18.1 9) (m4.1 6) (m18.1 10) := h20
      rewrite [(show (m4.1 6) = (m.1 6) from (fr1 Fm4 6 rfl))] at h20
      have hLx := h20
      replace h21 : (m4.1 8) ≤ (m18.1 8) := h21
      replace h22 : (m4.1 10) = 0 ∧ (m4.1 8) + (m4.1 9) ≤ (m18.1 8) := h22 hf33
      replace h23 : nn = 1 ∧ (m4.1 7) = 1 := h23 hf33
      replace h24 : nn = 1 → (m.1 26) ≠ (8 : Int) := h24
      replace h25 : ∀ k, (m18.2 14) k + (m18.2 15) k ≤ 4000 := h25
      have hNM := h25
      replace h26 : (nn = 1 ∧ (m4.1 10) = 0 ∧ (m18.1 13) = (m4.1 13) + 1 ∧ (m18.2 14) = upI (m4.2 14) (m4.1 13) (m4.1 8) ∧ (m18.2 15) = upI (m4.2 15) (m4.1 13) (m4.1 9) ∧ (m18.2 16) = upI (m4.2 16) (m4.1 13) (7 : Int) ∧ (m18.2 17) = upI (m4.2 17) (m4.1 13) (m.1 26)) ∨ (nn = 0 ∧ 0 < (m18.1 10) ∧ (m18.1 13) = (m4.1 13) ∧ (m18.2 14) = (m4.2 14) ∧ (m18.2 15) = (m4.2 15) ∧ (m18.2 16) = (m4.2 16) ∧ (m18.2 17) = (m4.2 17)) := h26
      rewrite [(show (m4.1 13) = (m.1 13) from (fr1 Fm4 13 rfl)), (show (m4.2 14) = (m.2 14) from (fr2 Fm4 14 rfl)), (show (m4.2 15) = (m.2 15) from (fr2 Fm4 15 rfl)), (show (m4.2 16) = (m.2 16) from (fr2 Fm4 16 rfl)), (show (m4.2 17) = (m.2 17) from (fr2 Fm4 17 rfl))] at h26
      have hN := h26
      have u34 : (m.1 8) + 1 ≤ (m18.1 8) := by omega
      have hAgC : agr (m.2 65) (m.2 65) (m.1 28) := by first | exact agr_r _ _ | exact hAgC | exact agr_t hAgC hAg (by omega)
      clear g9 g10 g11 g12 g13 h5 h7 h8 u15 h21 h22 h23 h26
      refine T_if 20 19 rfl rfl rfl (r32 (by omega) (by omega)) (fun (h35 : nn ≠ 0) => ?_) (fun (h35 : ¬ (nn ≠ 0)) => by exfalso; omega)
      have hlt : (m.1 26) ≤ 7 := by omega
      have hn7 : (m18.1 13) = (m.1 13) + 1 ∧ (m18.2 16) = upI (m.2 16) (m.1 13) 7 ∧ (m18.2 17) = upI (m.2 17) (m.1 13) (m.1 26) := by
        rcases hN with ⟨e1, e2, e3, e4, e5, e6, e7⟩ | ⟨e1, e2⟩
        · exact ⟨e3, e6, e7⟩
        · omega
      have pPN : PN (m18.1 13) (m.1 19) (m.1 20) (m.1 21) (m.1 22) (m.1 23) (m.1 25) ((m.1 26) + 1) (m18.2 16) (m18.2 17) := by
        rw [hn7.1, hn7.2.1, hn7.2.2]
        exact PN_7 pPN (by omega)
      refine T_gf 24 (.int (i32 (m.1 26))) rfl rfl rfl rfl (mfv_c (F := fun x => .int (i32 x)) rfl (show (m18.1 26) = (m.1 26) from ((fr1 Fm18 26 rfl).trans (fr1 Fm4 26 rfl)))) rfl ?_
      refine T_sto 25 [(1, .int (i32 (m.1 26))), (0, .ref 189)] rfl (fun _ => rfl) ?_
      refine T_ld 26 (.ref 189) rfl (fun _ => rfl) ?_
      refine T_ld 27 (.ref 189) rfl (fun _ => rfl) ?_
      refine T_gf1 30 (.int (i32 (m.1 26))) rfl rfl (mfv_c (F := fun x => .int (i32 x)) rfl (show (m18.1 26) = (m.1 26) from ((fr1 Fm18 26 rfl).trans (fr1 Fm4 26 rfl)))) rfl ?_
      refine T_ld 31 (.int (i32 1)) rfl (fun _ => rfl) ?_
      refine T_iadd 32 rfl rfl ?_
      refine T_pf (l' := [(26, (m.1 26) + 1)]) 35 ((m.1 26) + 1) rfl rfl rfl rfl rfl rfl ?_
      have g36 : 0 ≤ (m.1 26) + 1 ∧ (m.1 26) + 1 ≤ 8 := ⟨by omega, by omega⟩
      refine T_gf 39 (.ref 221) rfl rfl rfl rfl rfl rfl ?_
      refine T_ld 40 (.int (i32 (m.1 26))) rfl (fun _ => rfl) ?_
      refine T_ld 41 (.int (i32 0)) rfl (fun _ => rfl) ?_
      have G37 : ∀ j, 0 ≤ (upI (m.2 51) (m.1 26) 0) j ∧ (upI (m.2 51) (m.1 26) 0) j ≤ 4 := upI_rg (hT.2.1 51) ⟨by omega, by omega⟩
      refine T_iast (a' := [(51, upI (m.2 51) (m.1 26) 0)]) 42 51 (m.2 51) rfl rfl rfl (by omega) (show (m.1 26) < (8 : Int) by omega) (show (m18.2 51) = (m.2 51) from ((fr2 Fm18 51 rfl).trans (fr2 Fm4 51 rfl))) rfl ?_
      refine T_gf 46 (.ref 222) rfl rfl rfl rfl rfl rfl ?_
      refine T_ld 47 (.int (i32 (m.1 26))) rfl (fun _ => rfl) ?_
      refine T_ld 48 (.int (i32 0)) rfl (fun _ => rfl) ?_
      have G38 : ∀ j, 0 ≤ (upI (m.2 52) (m.1 26) 0) j ∧ (upI (m.2 52) (m.1 26) 0) j ≤ 4096 := upI_rg (hT.2.1 52) ⟨by omega, by omega⟩
      refine T_iast (a' := [(51, upI (m.2 51) (m.1 26) 0), (52, upI (m.2 52) (m.1 26) 0)]) 49 52 (m.2 52) rfl rfl rfl (by omega) (show (m.1 26) < (8 : Int) by omega) (show (m18.2 52) = (m.2 52) from ((fr2 Fm18 52 rfl).trans (fr2 Fm4 52 rfl))) rfl ?_
      refine T_gf 53 (.ref 223) rfl rfl rfl rfl rfl rfl ?_
      refine T_ld 54 (.int (i32 (m.1 26))) rfl (fun _ => rfl) ?_
      refine T_ld 55 (.int (i32 0)) rfl (fun _ => rfl) ?_
      have G39 : ∀ j, 0 ≤ (upI (m.2 53) (m.1 26) 0) j ∧ (upI (m.2 53) (m.1 26) 0) j ≤ 8 := upI_rg (hT.2.1 53) ⟨by omega, by omega⟩
      refine T_iast (a' := [(51, upI (m.2 51) (m.1 26) 0), (52, upI (m.2 52) (m.1 26) 0), (53, upI (m.2 53) (m.1 26) 0)]) 56 53 (m.2 53) rfl rfl rfl (by omega) (show (m.1 26) < (8 : Int) by omega) (show (m18.2 53) = (m.2 53) from ((fr2 Fm18 53 rfl).trans (fr2 Fm4 53 rfl))) rfl ?_
      refine T_gf 60 (.ref 228) rfl rfl rfl rfl rfl rfl ?_
      refine T_ld 61 (.int (i32 (m.1 26))) rfl (fun _ => rfl) ?_
      refine T_ld 62 (.int (i32 1)) rfl (fun _ => rfl) ?_
      have G40 : ∀ j, 0 ≤ (upI (m.2 58) (m.1 26) 1) j ∧ (upI (m.2 58) (m.1 26) 1) j ≤ 1 := upI_rg (hT.2.1 58) ⟨by omega, by omega⟩
      refine T_bast (a' := [(51, upI (m.2 51) (m.1 26) 0), (52, upI (m.2 52) (m.1 26) 0), (53, upI (m.2 53) (m.1 26) 0), (58, upI (m.2 58) (m.1 26) 1)]) 63 58 (m.2 58) rfl rfl rfl (by omega) (show (m.1 26) < (8 : Int) by omega) (by omega) (show (m18.2 58) = (m.2 58) from ((fr2 Fm18 58 rfl).trans (fr2 Fm4 58 rfl))) rfl ?_
      refine T_gf 67 (.ref 229) rfl rfl rfl rfl rfl rfl ?_
      refine T_ld 68 (.int (i32 (m.1 26))) rfl (fun _ => rfl) ?_
      refine T_ld 69 (.int (i32 0)) rfl (fun _ => rfl) ?_
      have G41 : ∀ j, 0 ≤ (upI (m.2 59) (m.1 26) 0) j ∧ (upI (m.2 59) (m.1 26) 0) j ≤ 1 := upI_rg (hT.2.1 59) ⟨by omega, by omega⟩
      refine T_bast (a' := [(51, upI (m.2 51) (m.1 26) 0), (52, upI (m.2 52) (m.1 26) 0), (53, upI (m.2 53) (m.1 26) 0), (58, upI (m.2 58) (m.1 26) 1), (59, upI (m.2 59) (m.1 26) 0)]) 70 59 (m.2 59) rfl rfl rfl (by omega) (show (m.1 26) < (8 : Int) by omega) (by omega) (show (m18.2 59) = (m.2 59) from ((fr2 Fm18 59 rfl).trans (fr2 Fm4 59 rfl))) rfl ?_
      refine T_ld 71 (.ref 189) rfl (fun _ => rfl) ?_
      refine T_ld 73 (.int (i32 123)) rfl (fun _ => rfl) ?_
      refine T_call 76 232 [.ref 189, .int (i32 123)] [] rfl (fun _ => rfl) rfl (d_need w (mO m18 [(26, (m.1 26) + 1)] [(51, upI (m.2 51) (m.1 26) 0), (52, upI (m.2 52) (m.1 26) 0), (53, upI (m.2 53) (m.1 26) 0), (58, upI (m.2 58) (m.1 26) 1), (59, upI (m.2 59) (m.1 26) 0)]) c N D (by omega) (Ty_mO Tm18 rfl rfl ⟨g36, trivial⟩ ⟨G37, G38, G39, G40, G41, trivial⟩) 123 ⟨by decide, by decide⟩ (show 1 ≤ (123 : Int) by omega) (show LxP (m18.1 7) (m18.1 8) (m18.1 9) (m18.1 6) (m18.1 10) by rewrite [(show (m18.1 6) = (m.1 6) from ((fr1 Fm18 6 rfl).trans (fr1 Fm4 6 rfl)))]; first | exact hLx | (intro h9; exfalso; omega) | (intro h9; have h8 := hLx (by omega); omega))) (fun rr42 k43 => ?_)
      obtain ⟨m44, Tm44, Fm44, h45, h46, h47, h48, rfl⟩ := k43
      refine ⟨_, _, rfl, ?_⟩
      refine T_nb (st' := []) rfl ?_
      have g49 : 0 ≤ m44.1 7 ∧ m44.1 7 ≤ 330 := Tm44.1 7
      have g50 : 0 ≤ m44.1 8 ∧ m44.1 8 ≤ 4000 := Tm44.1 8
      have g51 : 0 ≤ m44.1 9 ∧ m44.1 9 ≤ 4000 := Tm44.1 9
      have g52 : 0 ≤ m44.1 10 ∧ m44.1 10 ≤ 8 := Tm44.1 10
      have g53 : (-1) ≤ m44.1 11 ∧ m44.1 11 ≤ 4000 := Tm44.1 11
      by_cases hf54 : (m44.1 10) = 0
      · skip
        replace h45 : LxP (m44.1 7) (m44.1 8) (m44.1 9) (m18.1 6) (m44.1 10) := h45
        rewrite [(show (m18.1 6) = (m.1 6) from ((fr1 Fm18 6 rfl).trans (fr1 Fm4 6 rfl)))] at h45
        have hLx := h45
        replace h46 : (m18.1 10) = 0 ∧ (m18.1 7) = (123 : Int) := h46 hf54
        replace h47 : (m18.1 8) ≤ (m44.1 8) := h47
        replace h48 : (m18.1 8) + (m18.1 9) ≤ (m44.1 8) := h48 hf54
        have u55 : (m.1 8) + 1 ≤ (m44.1 8) := by omega
        have hAgC : agr (m.2 65) (m.2 65) (m.1 28) := by first | exact agr_r _ _ | exact hAgC | exact agr_t hAgC hAg (by omega)
        clear g27 g28 g29 g30 g31 g19a g19b h20 h24 u34 h35 h46 h47 h48
        have hKY : ∀ k, 4 * (m.1 26) ≤ k → k < 4 * (m.1 26) + (upI (m.2 51) (m.1 26) 0) (m.1 26) → cdr (m.2 65) (m.1 28) ((m.2 110) k) ((m.2 111) k) := fun k k0 k1 => by rw [upI_s] at k1; omega
        have hK1 : agr (m.2 51) (upI (m.2 51) (m.1 26) 0) (m.1 26) := agr_u (Int.le_refl _)
        have hK2 := agr_r (m.2 110) (4 * (m.1 26))
        have hK3 := agr_r (m.2 111) (4 * (m.1 26))
        refine T_ld 77 (.int (i32 0)) rfl (fun _ => rfl) ?_
        refine T_sto 78 [(2, .int (i32 0)), (1, .int (i32 (m.1 26))), (0, .ref 189)] rfl (fun _ => rfl) ?_
        refine T_ld 79 (.int (i32 0)) rfl (fun _ => rfl) ?_
        refine T_sto 80 [(3, .int (i32 0)), (2, .int (i32 0)), (1, .int (i32 (m.1 26))), (0, .ref 189)] rfl (fun _ => rfl) ?_
        refine T_gf 84 (.int (i32 (m44.1 10))) rfl rfl rfl rfl rfl rfl ?_
        refine T_if 101 87 rfl rfl rfl (r32 (by omega) (by omega)) (fun (h56 : (m44.1 10) ≠ 0) => by exfalso; omega) (fun (h56 : ¬ ((m44.1 10) ≠ 0)) => ?_)
        refine T_gf 91 (.int (i32 (m44.1 7))) rfl rfl rfl rfl rfl rfl ?_
        refine T_ld 94 (.int (i32 311)) rfl (fun _ => rfl) ?_
        refine T_icmp 101 97 rfl rfl rfl (r32 (by omega) (by omega)) ⟨by decide, by decide⟩ (fun (h57 : (m44.1 7) = 311) => ?_) (fun (h57 : ¬ ((m44.1 7) = 311)) => ?_)
        · skip
          have L101_61 : ∀ (n74 : Nat) (v58 : Int) (v59 : Int) (m60 : mR), (R32 v58) → (R32 v59) → Ty m60 → fr [7, 8, 9, 10, 11, 12, 28, 69, 70, 71, 72, 73, 74, 75] [51, 52, 65, 66, 67, 68, 76, 77, 78, 79, 80, 81, 82, 83, 84, 85, 86, 87, 88, 89, 90, 91, 92, 110, 111, 112, 113] (mO m44 [] []) m60 → (0 ≤ v58) → (v58 ≤ 1) → (0 ≤ v59) → (v59 ≤ 1) → (LxP (m60.1 7) (m60.1 8) (m60.1 9) (m.1 6) (m60.1 10)) → (v58 = 0 ∨ v58 = 1) → (v59 = 0 ∨ v59 = 1) → ((m60.2 52) (m.1 26) ≤ 1024 * (m60.2 51) (m.1 26)) → ((m60.1 10) = 0 → ((m.1 8) + 1 ≤ (m60.1 8)) ∧ (CN (m60.2 65) (m60.2 67) (m60.1 28)) ∧ ((m.1 28) ≤ (m60.1 28)) ∧ (agr (m.2 65) (m60.2 65) (m.1 28)) ∧ (∀ k, 4 * (m.1 26) ≤ k → k < 4 * (m.1 26) + (m60.2 51) (m.1 26) → cdr (m60.2 65) (m60.1 28) ((m60.2 110) k) ((m60.2 111) k)) ∧ (agr (m.2 51) (m60.2 51) (m.1 26)) ∧ (agr (m.2 110) (m60.2 110) (4 * (m.1 26))) ∧ (agr (m.2 111) (m60.2 111) (4 * (m.1 26)))) → 1000000 * (8 - (m60.1 10)) + (4000 - (m60.1 8)) < (n74 : Int) → TT w D pm_275 (101, [(0, .ref 189), (1, .int (i32 (m.1 26))), (2, .int (i32 v58)), (3, .int (i32 v59))], [], (mhp (mO m60 [] []) c, N), 0, 0) (Q_takeTable m c N) := by
            intro n74
            induction n74 with
            | zero =>
              intro v58 v59 m60 q70 q71 Tm60 Fm60 ic62 ic63 ic64 ic65 ic66 ic67 ic68 ic69 c73 hmu
              obtain ⟨q70a, q70b⟩ := id q70
              obtain ⟨q71a, q71b⟩ := id q71
              have q72_7 : 0 ≤ m60.1 7 ∧ m60.1 7 ≤ 330 := Tm60.1 7
              have q72_8 : 0 ≤ m60.1 8 ∧ m60.1 8 ≤ 4000 := Tm60.1 8
              have q72_9 : 0 ≤ m60.1 9 ∧ m60.1 9 ≤ 4000 := Tm60.1 9
              have q72_10 : 0 ≤ m60.1 10 ∧ m60.1 10 ≤ 8 := Tm60.1 10
              have q72_11 : (-1) ≤ m60.1 11 ∧ m60.1 11 ≤ 4000 := Tm60.1 11
              have q72_28 : 0 ≤ m60.1 28 ∧ m60.1 28 ≤ 800 := Tm60.1 28
              have q72_69 : 0 ≤ m60.1 69 ∧ m60.1 69 ≤ 1024 := Tm60.1 69
              have hLx := ic66
              have hTB := ic69
              exfalso
              omega
            | succ n74 ih =>
              intro v58 v59 m60 q70 q71 Tm60 Fm60 ic62 ic63 ic64 ic65 ic66 ic67 ic68 ic69 c73 hmu
              obtain ⟨q70a, q70b⟩ := id q70
              obtain ⟨q71a, q71b⟩ := id q71
              have q72_7 : 0 ≤ m60.1 7 ∧ m60.1 7 ≤ 330 := Tm60.1 7
              have q72_8 : 0 ≤ m60.1 8 ∧ m60.1 8 ≤ 4000 := Tm60.1 8
              have q72_9 : 0 ≤ m60.1 9 ∧ m60.1 9 ≤ 4000 := Tm60.1 9
              have q72_10 : 0 ≤ m60.1 10 ∧ m60.1 10 ≤ 8 := Tm60.1 10
              have q72_11 : (-1) ≤ m60.1 11 ∧ m60.1 11 ≤ 4000 := Tm60.1 11
              have q72_28 : 0 ≤ m60.1 28 ∧ m60.1 28 ≤ 800 := Tm60.1 28
              have q72_69 : 0 ≤ m60.1 69 ∧ m60.1 69 ≤ 1024 := Tm60.1 69
              have hLx := ic66
              have hTB := ic69
              have ih75 := ih
              by_cases hf76 : (m60.1 10) = 0
              · skip
                obtain ⟨c77, c78, c79, c80, c81, c82, c83, c84⟩ := c73 hf76
                clear c73
                have hCN := c78
                have hAgC := c80
                have hKY := c81
                have hK1 := c82
                have hK2 := c83
                have hK3 := c84
                refine T_gf 105 (.int (i32 (m60.1 10))) rfl rfl rfl rfl rfl rfl ?_
                refine T_if 384 108 rfl rfl rfl (r32 (by omega) (by omega)) (fun (h85 : (m60.1 10) ≠ 0) => by exfalso; omega) (fun (h85 : ¬ ((m60.1 10) ≠ 0)) => ?_)
                refine T_gf 112 (.int (i32 (m60.1 7))) rfl rfl rfl rfl rfl rfl ?_
                refine T_ld 115 (.int (i32 311)) rfl (fun _ => rfl) ?_
                refine T_icmp 384 118 rfl rfl rfl (r32 (by omega) (by omega)) ⟨by decide, by decide⟩ (fun (h86 : (m60.1 7) ≠ 311) => ?_) (fun (h86 : ¬ ((m60.1 7) ≠ 311)) => ?_)
                · skip
                  refine T_gf 388 (.ref 228) rfl rfl rfl rfl rfl rfl ?_
                  refine T_ld 389 (.int (i32 (m.1 26))) rfl (fun _ => rfl) ?_
                  refine T_ld 390 (.int (i32 v58)) rfl (fun _ => rfl) ?_
                  have J402_88 : ∀ (s87 : Int), (R32 s87) → (0 ≤ s87) → (s87 ≤ 1) → TT w D pm_275 (402, [(0, .ref 189), (1, .int (i32 (m.1 26))), (2, .int (i32 v58)), (3, .int (i32 v59))], [.int (i32 s87), .int (i32 (m.1 26)), .ref 228], (mhp (mO m60 [] []) c, N), 0, 0) (Q_takeTable m c N) := by
                    intro s87 q91 ic89 ic90
                    obtain ⟨q91a, q91b⟩ := id q91
                    have G94 : ∀ j, 0 ≤ (upI (upI (m.2 58) (m.1 26) 1) (m.1 26) s87) j ∧ (upI (upI (m.2 58) (m.1 26) 1) (m.1 26) s87) j ≤ 1 := upI_rg G40 ⟨by omega, by omega⟩
                    refine T_bast (a' := [(58, upI (upI (m.2 58) (m.1 26) 1) (m.1 26) s87)]) 403 58 (upI (m.2 58) (m.1 26) 1) rfl rfl rfl (by omega) (show (m.1 26) < (8 : Int) by omega) (by omega) (show (m60.2 58) = (upI (m.2 58) (m.1 26) 1) from ((fr2 Fm60 58 rfl).trans (fr2 Fm44 58 rfl))) rfl ?_
                    refine T_ld 404 (.ref 189) rfl (fun _ => rfl) ?_
                    refine T_ld 405 (.int (i32 (m.1 26))) rfl (fun _ => rfl) ?_
                    refine T_call 408 276 [.ref 189, .int (i32 (m.1 26))] [] rfl (fun _ => rfl) rfl (c_takeList w (mO m60 [] [(58, upI (upI (m.2 58) (m.1 26) 1) (m.1 26) s87)]) c N D (by omega) (Ty_mO Tm60 rfl rfl trivial ⟨G94, trivial⟩) (m.1 26) (r32 (by omega) (by omega)) (show LxP (m60.1 7) (m60.1 8) (m60.1 9) (m60.1 6) (m60.1 10) by rewrite [(show (m60.1 6) = (m.1 6) from ((fr1 Fm60 6 rfl).trans ((fr1 Fm44 6 rfl).trans ((fr1 Fm18 6 rfl).trans (fr1 Fm4 6 rfl)))))]; first | exact hLx | exact (fun _ => hLx (by omega)) | (intro h9; exfalso; omega)) (show ∀ k, (m60.2 14) k + (m60.2 15) k ≤ 4000 by rewrite [(show (m60.2 14) = (m18.2 14) from ((fr2 Fm60 14 rfl).trans (fr2 Fm44 14 rfl))), (show (m60.2 15) = (m18.2 15) from ((fr2 Fm60 15 rfl).trans (fr2 Fm44 15 rfl)))]; assumption) (show 0 ≤ (m.1 26) ∧ (m.1 26) ≤ 7 by omega) (fun _ => ⟨(show PN (m60.1 13) (m60.1 19) (m60.1 20) (m60.1 21) (m60.1 22) (m60.1 23) (m60.1 25) (m60.1 26) (m60.2 16) (m60.2 17) by rewrite [(show (m60.1 13) = (m18.1 13) from ((fr1 Fm60 13 rfl).trans (fr1 Fm44 13 rfl))), (show (m60.1 19) = (m.1 19) from ((fr1 Fm60 19 rfl).trans ((fr1 Fm44 19 rfl).trans ((fr1 Fm18 19 rfl).trans (fr1 Fm4 19 rfl))))), (show (m60.1 20) = (m.1 20) from ((fr1 Fm60 20 rfl).trans ((fr1 Fm44 20 rfl).trans ((fr1 Fm18 20 rfl).trans (fr1 Fm4 20 rfl))))), (show (m60.1 21) = (m.1 21) from ((fr1 Fm60 21 rfl).trans ((fr1 Fm44 21 rfl).trans ((fr1 Fm18 21 rfl).trans (fr1 Fm4 21 rfl))))), (show (m60.1 22) = (m.1 22) from ((fr1 Fm60 22 rfl).trans ((fr1 Fm44 22 rfl).trans ((fr1 Fm18 22 rfl).trans (fr1 Fm4 22 rfl))))), (show (m60.1 23) = (m.1 23) from ((fr1 Fm60 23 rfl).trans ((fr1 Fm44 23 rfl).trans ((fr1 Fm18 23 rfl).trans (fr1 Fm4 23 rfl))))), (show (m60.1 25) = (m.1 25) from ((fr1 Fm60 25 rfl).trans ((fr1 Fm44 25 rfl).trans ((fr1 Fm18 25 rfl).trans (fr1 Fm4 25 rfl))))), (show (m60.1 26) = ((m.1 26) + 1) from ((fr1 Fm60 26 rfl).trans (fr1 Fm44 26 rfl))), (show (m60.2 16) = (m18.2 16) from ((fr2 Fm60 16 rfl).trans (fr2 Fm44 16 rfl))), (show (m60.2 17) = (m18.2 17) from ((fr2 Fm60 17 rfl).trans (fr2 Fm44 17 rfl)))]; assumption), (show (m60.2 53) (m.1 26) = 0 by rewrite [(show (m60.2 53) = (upI (m.2 53) (m.1 26) 0) from ((fr2 Fm60 53 rfl).trans (fr2 Fm44 53 rfl)))]; first | omega | exact upI_s | assumption)⟩)) (fun rr95 k96 => ?_)
                    obtain ⟨m97, Tm97, Fm97, h98, h99, c100, rfl⟩ := k96
                    refine ⟨_, _, rfl, ?_⟩
                    refine T_nb (st' := []) rfl ?_
                    have g101 : 0 ≤ m97.1 7 ∧ m97.1 7 ≤ 330 := Tm97.1 7
                    have g102 : 0 ≤ m97.1 8 ∧ m97.1 8 ≤ 4000 := Tm97.1 8
                    have g103 : 0 ≤ m97.1 9 ∧ m97.1 9 ≤ 4000 := Tm97.1 9
                    have g104 : 0 ≤ m97.1 10 ∧ m97.1 10 ≤ 8 := Tm97.1 10
                    have g105 : (-1) ≤ m97.1 11 ∧ m97.1 11 ≤ 4000 := Tm97.1 11
                    by_cases hf106 : (m97.1 10) = 0
                    · skip
                      replace h98 : (m60.1 10) = 0 := h98 hf106
                      replace h99 : LxP (m97.1 7) (m97.1 8) (m97.1 9) (m60.1 6) (m97.1 10) := h99
                      rewrite [(show (m60.1 6) = (m.1 6) from ((fr1 Fm60 6 rfl).trans ((fr1 Fm44 6 rfl).trans ((fr1 Fm18 6 rfl).trans (fr1 Fm4 6 rfl)))))] at h99
                      have hLx := h99
                      obtain ⟨c107, c108, c109, c110⟩ := c100 hf106
                      replace c107 : (m60.1 8) + 1 ≤ (m97.1 8) := c107
                      replace c108 : agr (m60.2 53) (m97.2 53) (m.1 26) := c108
                      rewrite [(show (m60.2 53) = (upI (m.2 53) (m.1 26) 0) from ((fr2 Fm60 53 rfl).trans (fr2 Fm44 53 rfl)))] at c108
                      have hL1 := c108
                      replace c109 : agr (m60.2 114) (m97.2 114) (8 * (m.1 26)) := c109
                      rewrite [(show (m60.2 114) = (m.2 114) from ((fr2 Fm60 114 rfl).trans ((fr2 Fm44 114 rfl).trans ((fr2 Fm18 114 rfl).trans (fr2 Fm4 114 rfl)))))] at c109
                      have hL2 := c109
                      replace c110 : ∀ k, 8 * (m.1 26) ≤ k → k < 8 * (m.1 26) + (m97.2 53) (m.1 26) → (m97.2 114) k < (m60.1 25) := c110
                      rewrite [(show (m60.1 25) = (m.1 25) from ((fr1 Fm60 25 rfl).trans ((fr1 Fm44 25 rfl).trans ((fr1 Fm18 25 rfl).trans (fr1 Fm4 25 rfl)))))] at c110
                      have hLI := c110
                      clear c100
                      have u111 : (m60.1 8) + 1 ≤ (m97.1 8) := by omega
                      have u112 : (m.1 8) + 1 ≤ (m97.1 8) := by omega
                      have hAgC : agr (m.2 65) (m60.2 65) (m.1 28) := by first | exact agr_r _ _ | exact hAgC | exact agr_t hAgC hAg (by omega)
                      clear g49 g50 g51 g52 g53 h45 u55 h56 h57 q72_7 q72_9 q72_11 ic66 h86
                      refine T_ld 409 (.ref 189) rfl (fun _ => rfl) ?_
                      refine T_ld 410 (.int (i32 (m.1 26))) rfl (fun _ => rfl) ?_
                      refine T_call 413 277 [.ref 189, .int (i32 (m.1 26))] [] rfl (fun _ => rfl) rfl (c_takeElse w (mO m97 [] []) c N D (by omega) Tm97 (m.1 26) (r32 (by omega) (by omega)) (show LxP (m97.1 7) (m97.1 8) (m97.1 9) (m97.1 6) (m97.1 10) by rewrite [(show (m97.1 6) = (m.1 6) from ((fr1 Fm97 6 rfl).trans ((fr1 Fm60 6 rfl).trans ((fr1 Fm44 6 rfl).trans ((fr1 Fm18 6 rfl).trans (fr1 Fm4 6 rfl))))))]; first | exact hLx | exact (fun _ => hLx (by omega)) | (intro h9; exfalso; omega)) (show ∀ k, (m97.2 14) k + (m97.2 15) k ≤ 4000 by rewrite [(show (m97.2 14) = (m18.2 14) from ((fr2 Fm97 14 rfl).trans ((fr2 Fm60 14 rfl).trans (fr2 Fm44 14 rfl)))), (show (m97.2 15) = (m18.2 15) from ((fr2 Fm97 15 rfl).trans ((fr2 Fm60 15 rfl).trans (fr2 Fm44 15 rfl))))]; assumption) (show 0 ≤ (m.1 26) ∧ (m.1 26) ≤ 7 by omega) (fun _ => (show PN (m97.1 13) (m97.1 19) (m97.1 20) (m97.1 21) (m97.1 22) (m97.1 23) (m97.1 25) (m97.1 26) (m97.2 16) (m97.2 17) by rewrite [(show (m97.1 13) = (m18.1 13) from ((fr1 Fm97 13 rfl).trans ((fr1 Fm60 13 rfl).trans (fr1 Fm44 13 rfl)))), (show (m97.1 19) = (m.1 19) from ((fr1 Fm97 19 rfl).trans ((fr1 Fm60 19 rfl).trans ((fr1 Fm44 19 rfl).trans ((fr1 Fm18 19 rfl).trans (fr1 Fm4 19 rfl)))))), (show (m97.1 20) = (m.1 20) from ((fr1 Fm97 20 rfl).trans ((fr1 Fm60 20 rfl).trans ((fr1 Fm44 20 rfl).trans ((fr1 Fm18 20 rfl).trans (fr1 Fm4 20 rfl)))))), (show (m97.1 21) = (m.1 21) from ((fr1 Fm97 21 rfl).trans ((fr1 Fm60 21 rfl).trans ((fr1 Fm44 21 rfl).trans ((fr1 Fm18 21 rfl).trans (fr1 Fm4 21 rfl)))))), (show (m97.1 22) = (m.1 22) from ((fr1 Fm97 22 rfl).trans ((fr1 Fm60 22 rfl).trans ((fr1 Fm44 22 rfl).trans ((fr1 Fm18 22 rfl).trans (fr1 Fm4 22 rfl)))))), (show (m97.1 23) = (m.1 23) from ((fr1 Fm97 23 rfl).trans ((fr1 Fm60 23 rfl).trans ((fr1 Fm44 23 rfl).trans ((fr1 Fm18 23 rfl).trans (fr1 Fm4 23 rfl)))))), (show (m97.1 25) = (m.1 25) from ((fr1 Fm97 25 rfl).trans ((fr1 Fm60 25 rfl).trans ((fr1 Fm44 25 rfl).trans ((fr1 Fm18 25 rfl).trans (fr1 Fm4 25 rfl)))))), (show (m97.1 26) = ((m.1 26) + 1) from ((fr1 Fm97 26 rfl).trans ((fr1 Fm60 26 rfl).trans (fr1 Fm44 26 rfl)))), (show (m97.2 16) = (m18.2 16) from ((fr2 Fm97 16 rfl).trans ((fr2 Fm60 16 rfl).trans (fr2 Fm44 16 rfl)))), (show (m97.2 17) = (m18.2 17) from ((fr2 Fm97 17 rfl).trans ((fr2 Fm60 17 rfl).trans (fr2 Fm44 17 rfl))))]; assumption))) (fun rr113 k114 => ?_)
                      obtain ⟨m115, Tm115, Fm115, h116, h117, c118, rfl⟩ := k114
                      refine ⟨_, _, rfl, ?_⟩
                      refine T_nb (st' := []) rfl ?_
                      have g119 : 0 ≤ m115.1 7 ∧ m115.1 7 ≤ 330 := Tm115.1 7
                      have g120 : 0 ≤ m115.1 8 ∧ m115.1 8 ≤ 4000 := Tm115.1 8
                      have g121 : 0 ≤ m115.1 9 ∧ m115.1 9 ≤ 4000 := Tm115.1 9
                      have g122 : 0 ≤ m115.1 10 ∧ m115.1 10 ≤ 8 := Tm115.1 10
                      have g123 : (-1) ≤ m115.1 11 ∧ m115.1 11 ≤ 4000 := Tm115.1 11
                      by_cases hf124 : (m115.1 10) = 0
                      · skip
                        replace h116 : (m97.1 10) = 0 := h116 hf124
                        replace h117 : LxP (m115.1 7) (m115.1 8) (m115.1 9) (m97.1 6) (m115.1 10) := h117
                        rewrite [(show (m97.1 6) = (m.1 6) from ((fr1 Fm97 6 rfl).trans ((fr1 Fm60 6 rfl).trans ((fr1 Fm44 6 rfl).trans ((fr1 Fm18 6 rfl).trans (fr1 Fm4 6 rfl))))))] at h117
                        have hLx := h117
                        obtain ⟨c125, c126, c127⟩ := c118 hf124
                        replace c125 : (m97.1 8) + 1 ≤ (m115.1 8) := c125
                        replace c126 : (m115.2 57) (m.1 26) < (m97.1 25) := c126
                        rewrite [(show (m97.1 25) = (m.1 25) from ((fr1 Fm97 25 rfl).trans ((fr1 Fm60 25 rfl).trans ((fr1 Fm44 25 rfl).trans ((fr1 Fm18 25 rfl).trans (fr1 Fm4 25 rfl))))))] at c126
                        have hEl := c126
                        replace c127 : agr (m97.2 57) (m115.2 57) (m.1 26) := c127
                        rewrite [(show (m97.2 57) = (m.2 57) from ((fr2 Fm97 57 rfl).trans ((fr2 Fm60 57 rfl).trans ((fr2 Fm44 57 rfl).trans ((fr2 Fm18 57 rfl).trans (fr2 Fm4 57 rfl))))))] at c127
                        have hL3 := c127
                        clear c118
                        have u128 : (m60.1 8) + 1 ≤ (m115.1 8) := by omega
                        have u129 : (m.1 8) + 1 ≤ (m115.1 8) := by omega
                        have hAgC : agr (m.2 65) (m60.2 65) (m.1 28) := by first | exact agr_r _ _ | exact hAgC | exact agr_t hAgC hAg (by omega)
                        clear g101 g102 g103 g104 g105 h99 c107 u112 u111 h116 c125
                        refine T_ld 414 (.ref 189) rfl (fun _ => rfl) ?_
                        refine T_ld 415 (.int (i32 (m.1 26))) rfl (fun _ => rfl) ?_
                        refine T_call 418 278 [.ref 189, .int (i32 (m.1 26))] [] rfl (fun _ => rfl) rfl (c_takeRoom w (mO m115 [] []) c N D (by omega) Tm115 (m.1 26) (r32 (by omega) (by omega)) (show LxP (m115.1 7) (m115.1 8) (m115.1 9) (m115.1 6) (m115.1 10) by rewrite [(show (m115.1 6) = (m.1 6) from ((fr1 Fm115 6 rfl).trans ((fr1 Fm97 6 rfl).trans ((fr1 Fm60 6 rfl).trans ((fr1 Fm44 6 rfl).trans ((fr1 Fm18 6 rfl).trans (fr1 Fm4 6 rfl)))))))]; first | exact hLx | exact (fun _ => hLx (by omega)) | (intro h9; exfalso; omega)) (show 0 ≤ (m.1 26) ∧ (m.1 26) ≤ 7 by omega) (fun _ => trivial)) (fun rr130 k131 => ?_)
                        obtain ⟨m132, Tm132, Fm132, h133, h134, c135, rfl⟩ := k131
                        refine ⟨_, _, rfl, ?_⟩
                        refine T_nb (st' := []) rfl ?_
                        have g136 : 0 ≤ m132.1 7 ∧ m132.1 7 ≤ 330 := Tm132.1 7
                        have g137 : 0 ≤ m132.1 8 ∧ m132.1 8 ≤ 4000 := Tm132.1 8
                        have g138 : 0 ≤ m132.1 9 ∧ m132.1 9 ≤ 4000 := Tm132.1 9
                        have g139 : 0 ≤ m132.1 10 ∧ m132.1 10 ≤ 8 := Tm132.1 10
                        have g140 : (-1) ≤ m132.1 11 ∧ m132.1 11 ≤ 4000 := Tm132.1 11
                        by_cases hf141 : (m132.1 10) = 0
                        · skip
                          replace h133 : (m115.1 10) = 0 := h133 hf141
                          replace h134 : LxP (m132.1 7) (m132.1 8) (m132.1 9) (m115.1 6) (m132.1 10) := h134
                          rewrite [(show (m115.1 6) = (m.1 6) from ((fr1 Fm115 6 rfl).trans ((fr1 Fm97 6 rfl).trans ((fr1 Fm60 6 rfl).trans ((fr1 Fm44 6 rfl).trans ((fr1 Fm18 6 rfl).trans (fr1 Fm4 6 rfl)))))))] at h134
                          have hLx := h134
                          obtain ⟨c142, c143, c144, c145⟩ := c135 hf141
                          replace c142 : (m115.1 8) + 1 ≤ (m132.1 8) := c142
                          replace c143 : 1 ≤ (m132.2 54) (m.1 26) := c143
                          have hRo1 := c143
                          replace c144 : (m115.2 58) (m.1 26) = 1 → (m132.2 54) (m.1 26) ≤ 16 := c144
                          rewrite [(show (m115.2 58) = (upI (upI (m.2 58) (m.1 26) 1) (m.1 26) s87) from ((fr2 Fm115 58 rfl).trans (fr2 Fm97 58 rfl)))] at c144
                          have hRo2 := c144
                          replace c145 : agr (m115.2 54) (m132.2 54) (m.1 26) := c145
                          rewrite [(show (m115.2 54) = (m.2 54) from ((fr2 Fm115 54 rfl).trans ((fr2 Fm97 54 rfl).trans ((fr2 Fm60 54 rfl).trans ((fr2 Fm44 54 rfl).trans ((fr2 Fm18 54 rfl).trans (fr2 Fm4 54 rfl)))))))] at c145
                          have hL4 := c145
                          clear c135
                          have u146 : (m60.1 8) + 1 ≤ (m132.1 8) := by omega
                          have u147 : (m.1 8) + 1 ≤ (m132.1 8) := by omega
                          have hAgC : agr (m.2 65) (m60.2 65) (m.1 28) := by first | exact agr_r _ _ | exact hAgC | exact agr_t hAgC hAg (by omega)
                          clear g119 g120 g121 g122 g123 h117 u129 u128 h133 c142
                          have hTb2 : TbP (m60.2 65) (m60.1 28) (m.1 25) ((m.1 26) + 1) (m60.2 51) (m60.2 110) (m60.2 111) (m115.2 57) (m97.2 53) (m97.2 114) (upI (upI (m.2 58) (m.1 26) 1) (m.1 26) s87) (m132.2 54) := TbP_add (TbP_f pTb hAgC (by omega) (by omega) hK1 hK2 hK3 hL3 (agr_t (agr_u (Int.le_refl _)) hL1 (Int.le_refl _)) hL2 (agr_t (agr_u (Int.le_refl _)) (agr_u (Int.le_refl _)) (Int.le_refl _)) hL4 (hT.2.1 51) (hT.2.1 53)) ⟨hKY, hEl, hLI, hRo2, hRo1⟩
                          refine T_ld 419 (.ref 189) rfl (fun _ => rfl) ?_
                          refine T_ld 421 (.int (i32 125)) rfl (fun _ => rfl) ?_
                          refine T_call 424 232 [.ref 189, .int (i32 125)] [] rfl (fun _ => rfl) rfl (d_need w (mO m132 [] []) c N D (by omega) Tm132 125 ⟨by decide, by decide⟩ (show 1 ≤ (125 : Int) by omega) (show LxP (m132.1 7) (m132.1 8) (m132.1 9) (m132.1 6) (m132.1 10) by rewrite [(show (m132.1 6) = (m.1 6) from ((fr1 Fm132 6 rfl).trans ((fr1 Fm115 6 rfl).trans ((fr1 Fm97 6 rfl).trans ((fr1 Fm60 6 rfl).trans ((fr1 Fm44 6 rfl).trans ((fr1 Fm18 6 rfl).trans (fr1 Fm4 6 rfl))))))))]; first | exact hLx | (intro h9; exfalso; omega) | (intro h9; have h8 := hLx (by omega); omega))) (fun rr148 k149 => ?_)
                          obtain ⟨m150, Tm150, Fm150, h151, h152, h153, h154, rfl⟩ := k149
                          refine ⟨_, _, rfl, ?_⟩
                          refine T_nb (st' := []) rfl ?_
                          have g155 : 0 ≤ m150.1 7 ∧ m150.1 7 ≤ 330 := Tm150.1 7
                          have g156 : 0 ≤ m150.1 8 ∧ m150.1 8 ≤ 4000 := Tm150.1 8
                          have g157 : 0 ≤ m150.1 9 ∧ m150.1 9 ≤ 4000 := Tm150.1 9
                          have g158 : 0 ≤ m150.1 10 ∧ m150.1 10 ≤ 8 := Tm150.1 10
                          have g159 : (-1) ≤ m150.1 11 ∧ m150.1 11 ≤ 4000 := Tm150.1 11
                          by_cases hf160 : (m150.1 10) = 0
                          · skip
                            replace h151 : LxP (m150.1 7) (m150.1 8) (m150.1 9) (m132.1 6) (m150.1 10) := h151
                            rewrite [(show (m132.1 6) = (m.1 6) from ((fr1 Fm132 6 rfl).trans ((fr1 Fm115 6 rfl).trans ((fr1 Fm97 6 rfl).trans ((fr1 Fm60 6 rfl).trans ((fr1 Fm44 6 rfl).trans ((fr1 Fm18 6 rfl).trans (fr1 Fm4 6 rfl))))))))] at h151
                            have hLx := h151
                            replace h152 : (m132.1 10) = 0 ∧ (m132.1 7) = (125 : Int) := h152 hf160
                            replace h153 : (m132.1 8) ≤ (m150.1 8) := h153
                            replace h154 : (m132.1 8) + (m132.1 9) ≤ (m150.1 8) := h154 hf160
                            have u161 : (m60.1 8) + 1 ≤ (m150.1 8) := by omega
                            have u162 : (m.1 8) + 1 ≤ (m150.1 8) := by omega
                            have hAgC : agr (m.2 65) (m60.2 65) (m.1 28) := by first | exact agr_r _ _ | exact hAgC | exact agr_t hAgC hAg (by omega)
                            clear g136 g137 g138 g139 g140 h134 u147 u146 h152 h153 h154
                            refine T_ret rfl (fun _ => rfl) ?_
                            exact ⟨(mO m150 [] []), Tm150, (fr_m (fr_s Fm150 (fr_m (fr_s Fm132 (fr_m (fr_s Fm115 (fr_m (fr_s Fm97 (fr_m (fr_s Fm60 (fr_m (fr_s Fm44 (fr_m (fr_s Fm18 (fr_m (fr_s Fm4 (fr_m fr_0 rfl rfl) rfl rfl) rfl rfl) rfl rfl) rfl rfl) rfl rfl) rfl rfl) rfl rfl) rfl rfl) rfl rfl) rfl rfl) rfl rfl) rfl rfl) rfl rfl) rfl rfl) rfl rfl) rfl rfl), (show (m150.1 10) = 0 → (m.1 10) = 0 by omega), (show LxP (m150.1 7) (m150.1 8) (m150.1 9) (m.1 6) (m150.1 10) by first | (first | exact hLx | exact (fun _ => hLx (by omega)) | (intro h9; exfalso; omega)) | (exfalso; omega)), (show ∀ k, (m150.2 14) k + (m150.2 15) k ≤ 4000 by rewrite [(show (m150.2 14) = (m18.2 14) from ((fr2 Fm150 14 rfl).trans ((fr2 Fm132 14 rfl).trans ((fr2 Fm115 14 rfl).trans ((fr2 Fm97 14 rfl).trans ((fr2 Fm60 14 rfl).trans (fr2 Fm44 14 rfl))))))), (show (m150.2 15) = (m18.2 15) from ((fr2 Fm150 15 rfl).trans ((fr2 Fm132 15 rfl).trans ((fr2 Fm115 15 rfl).trans ((fr2 Fm97 15 rfl).trans ((fr2 Fm60 15 rfl).trans (fr2 Fm44 15 rfl)))))))]; first | (exact hNM) | (exfalso; omega)), (fun _ => ⟨(show (m.1 8) + 1 ≤ (m150.1 8) by omega), (show PN (m150.1 13) (m.1 19) (m.1 20) (m.1 21) (m.1 22) (m.1 23) (m.1 25) (m150.1 26) (m150.2 16) (m150.2 17) by rewrite [(show (m150.1 13) = (m18.1 13) from ((fr1 Fm150 13 rfl).trans ((fr1 Fm132 13 rfl).trans ((fr1 Fm115 13 rfl).trans ((fr1 Fm97 13 rfl).trans ((fr1 Fm60 13 rfl).trans (fr1 Fm44 13 rfl))))))), (show (m150.1 26) = ((m.1 26) + 1) from ((fr1 Fm150 26 rfl).trans ((fr1 Fm132 26 rfl).trans ((fr1 Fm115 26 rfl).trans ((fr1 Fm97 26 rfl).trans ((fr1 Fm60 26 rfl).trans (fr1 Fm44 26 rfl))))))), (show (m150.2 16) = (m18.2 16) from ((fr2 Fm150 16 rfl).trans ((fr2 Fm132 16 rfl).trans ((fr2 Fm115 16 rfl).trans ((fr2 Fm97 16 rfl).trans ((fr2 Fm60 16 rfl).trans (fr2 Fm44 16 rfl))))))), (show (m150.2 17) = (m18.2 17) from ((fr2 Fm150 17 rfl).trans ((fr2 Fm132 17 rfl).trans ((fr2 Fm115 17 rfl).trans ((fr2 Fm97 17 rfl).trans ((fr2 Fm60 17 rfl).trans (fr2 Fm44 17 rfl)))))))]; first | (exact pPN) | (exfalso; omega)), (show CN (m150.2 65) (m150.2 67) (m150.1 28) by rewrite [(show (m150.2 65) = (m60.2 65) from ((fr2 Fm150 65 rfl).trans ((fr2 Fm132 65 rfl).trans ((fr2 Fm115 65 rfl).trans (fr2 Fm97 65 rfl))))), (show (m150.2 67) = (m60.2 67) from ((fr2 Fm150 67 rfl).trans ((fr2 Fm132 67 rfl).trans ((fr2 Fm115 67 rfl).trans (fr2 Fm97 67 rfl))))), (show (m150.1 28) = (m60.1 28) from ((fr1 Fm150 28 rfl).trans ((fr1 Fm132 28 rfl).trans ((fr1 Fm115 28 rfl).trans (fr1 Fm97 28 rfl)))))]; first | (exact hCN) | (exfalso; omega)), (show (m.1 28) ≤ (m150.1 28) by rewrite [(show (m150.1 28) = (m60.1 28) from ((fr1 Fm150 28 rfl).trans ((fr1 Fm132 28 rfl).trans ((fr1 Fm115 28 rfl).trans (fr1 Fm97 28 rfl)))))]; omega), (show agr (m.2 65) (m150.2 65) (m.1 28) by rewrite [(show (m150.2 65) = (m60.2 65) from ((fr2 Fm150 65 rfl).trans ((fr2 Fm132 65 rfl).trans ((fr2 Fm115 65 rfl).trans (fr2 Fm97 65 rfl)))))]; first | (exact hAgC) | (exfalso; omega)), (show TbP (m150.2 65) (m150.1 28) (m.1 25) (m150.1 26) (m150.2 51) (m150.2 110) (m150.2 111) (m150.2 57) (m150.2 53) (m150.2 114) (m150.2 58) (m150.2 54) by rewrite [(show (m150.2 65) = (m60.2 65) from ((fr2 Fm150 65 rfl).trans ((fr2 Fm132 65 rfl).trans ((fr2 Fm115 65 rfl).trans (fr2 Fm97 65 rfl))))), (show (m150.1 28) = (m60.1 28) from ((fr1 Fm150 28 rfl).trans ((fr1 Fm132 28 rfl).trans ((fr1 Fm115 28 rfl).trans (fr1 Fm97 28 rfl))))), (show (m150.1 26) = ((m.1 26) + 1) from ((fr1 Fm150 26 rfl).trans ((fr1 Fm132 26 rfl).trans ((fr1 Fm115 26 rfl).trans ((fr1 Fm97 26 rfl).trans ((fr1 Fm60 26 rfl).trans (fr1 Fm44 26 rfl))))))), (show (m150.2 51) = (m60.2 51) from ((fr2 Fm150 51 rfl).trans ((fr2 Fm132 51 rfl).trans ((fr2 Fm115 51 rfl).trans (fr2 Fm97 51 rfl))))), (show (m150.2 110) = (m60.2 110) from ((fr2 Fm150 110 rfl).trans ((fr2 Fm132 110 rfl).trans ((fr2 Fm115 110 rfl).trans (fr2 Fm97 110 rfl))))), (show (m150.2 111) = (m60.2 111) from ((fr2 Fm150 111 rfl).trans ((fr2 Fm132 111 rfl).trans ((fr2 Fm115 111 rfl).trans (fr2 Fm97 111 rfl))))), (show (m150.2 57) = (m115.2 57) from ((fr2 Fm150 57 rfl).trans (fr2 Fm132 57 rfl))), (show (m150.2 53) = (m97.2 53) from ((fr2 Fm150 53 rfl).trans ((fr2 Fm132 53 rfl).trans (fr2 Fm115 53 rfl)))), (show (m150.2 114) = (m97.2 114) from ((fr2 Fm150 114 rfl).trans ((fr2 Fm132 114 rfl).trans (fr2 Fm115 114 rfl)))), (show (m150.2 58) = (upI (upI (m.2 58) (m.1 26) 1) (m.1 26) s87) from ((fr2 Fm150 58 rfl).trans ((fr2 Fm132 58 rfl).trans ((fr2 Fm115 58 rfl).trans (fr2 Fm97 58 rfl))))), (show (m150.2 54) = (m132.2 54) from (fr2 Fm150 54 rfl))]; first | (exact hTb2) | (exfalso; omega))⟩), rfl⟩
                          · skip
                            replace h151 : LxP (m150.1 7) (m150.1 8) (m150.1 9) (m132.1 6) (m150.1 10) := h151
                            rewrite [(show (m132.1 6) = (m.1 6) from ((fr1 Fm132 6 rfl).trans ((fr1 Fm115 6 rfl).trans ((fr1 Fm97 6 rfl).trans ((fr1 Fm60 6 rfl).trans ((fr1 Fm44 6 rfl).trans ((fr1 Fm18 6 rfl).trans (fr1 Fm4 6 rfl))))))))] at h151
                            have hLx := h151
                            clear h152
                            replace h153 : (m132.1 8) ≤ (m150.1 8) := h153
                            clear h154
                            have hf163 : 1 ≤ (m150.1 10) := by omega
                            clear g136 g137 g138 g139 g140 h134 u147 u146 h153
                            refine T_ret rfl (fun _ => rfl) ?_
                            exact ⟨(mO m150 [] []), Tm150, (fr_m (fr_s Fm150 (fr_m (fr_s Fm132 (fr_m (fr_s Fm115 (fr_m (fr_s Fm97 (fr_m (fr_s Fm60 (fr_m (fr_s Fm44 (fr_m (fr_s Fm18 (fr_m (fr_s Fm4 (fr_m fr_0 rfl rfl) rfl rfl) rfl rfl) rfl rfl) rfl rfl) rfl rfl) rfl rfl) rfl rfl) rfl rfl) rfl rfl) rfl rfl) rfl rfl) rfl rfl) rfl rfl) rfl rfl) rfl rfl) rfl rfl), (show (m150.1 10) = 0 → (m.1 10) = 0 by omega), (show LxP (m150.1 7) (m150.1 8) (m150.1 9) (m.1 6) (m150.1 10) by first | (first | exact hLx | exact (fun _ => hLx (by omega)) | (intro h9; exfalso; omega)) | (exfalso; omega)), (show ∀ k, (m150.2 14) k + (m150.2 15) k ≤ 4000 by rewrite [(show (m150.2 14) = (m18.2 14) from ((fr2 Fm150 14 rfl).trans ((fr2 Fm132 14 rfl).trans ((fr2 Fm115 14 rfl).trans ((fr2 Fm97 14 rfl).trans ((fr2 Fm60 14 rfl).trans (fr2 Fm44 14 rfl))))))), (show (m150.2 15) = (m18.2 15) from ((fr2 Fm150 15 rfl).trans ((fr2 Fm132 15 rfl).trans ((fr2 Fm115 15 rfl).trans ((fr2 Fm97 15 rfl).trans ((fr2 Fm60 15 rfl).trans (fr2 Fm44 15 rfl)))))))]; first | (exact hNM) | (exfalso; omega)), (fun (h : (m150.1 10) = 0) => absurd h (by omega)), rfl⟩
                        · skip
                          clear c135
                          clear h133
                          replace h134 : LxP (m132.1 7) (m132.1 8) (m132.1 9) (m115.1 6) (m132.1 10) := h134
                          rewrite [(show (m115.1 6) = (m.1 6) from ((fr1 Fm115 6 rfl).trans ((fr1 Fm97 6 rfl).trans ((fr1 Fm60 6 rfl).trans ((fr1 Fm44 6 rfl).trans ((fr1 Fm18 6 rfl).trans (fr1 Fm4 6 rfl)))))))] at h134
                          have hLx := h134
                          have hf164 : 1 ≤ (m132.1 10) := by omega
                          clear g119 g120 g121 g122 g123 h117 u129 u128
                          refine T_ld 419 (.ref 189) rfl (fun _ => rfl) ?_
                          refine T_ld 421 (.int (i32 125)) rfl (fun _ => rfl) ?_
                          refine T_call 424 232 [.ref 189, .int (i32 125)] [] rfl (fun _ => rfl) rfl (d_need w (mO m132 [] []) c N D (by omega) Tm132 125 ⟨by decide, by decide⟩ (show 1 ≤ (125 : Int) by omega) (show LxP (m132.1 7) (m132.1 8) (m132.1 9) (m132.1 6) (m132.1 10) by rewrite [(show (m132.1 6) = (m.1 6) from ((fr1 Fm132 6 rfl).trans ((fr1 Fm115 6 rfl).trans ((fr1 Fm97 6 rfl).trans ((fr1 Fm60 6 rfl).trans ((fr1 Fm44 6 rfl).trans ((fr1 Fm18 6 rfl).trans (fr1 Fm4 6 rfl))))))))]; first | exact hLx | (intro h9; exfalso; omega) | (intro h9; have h8 := hLx (by omega); omega))) (fun rr165 k166 => ?_)
                          obtain ⟨m167, Tm167, Fm167, h168, h169, h170, h171, rfl⟩ := k166
                          refine ⟨_, _, rfl, ?_⟩
                          refine T_nb (st' := []) rfl ?_
                          have g172 : 0 ≤ m167.1 7 ∧ m167.1 7 ≤ 330 := Tm167.1 7
                          have g173 : 0 ≤ m167.1 8 ∧ m167.1 8 ≤ 4000 := Tm167.1 8
                          have g174 : 0 ≤ m167.1 9 ∧ m167.1 9 ≤ 4000 := Tm167.1 9
                          have g175 : 0 ≤ m167.1 10 ∧ m167.1 10 ≤ 8 := Tm167.1 10
                          have g176 : (-1) ≤ m167.1 11 ∧ m167.1 11 ≤ 4000 := Tm167.1 11
                          replace h168 : LxP (m167.1 7) (m167.1 8) (m167.1 9) (m132.1 6) (m167.1 10) := h168
                          rewrite [(show (m132.1 6) = (m.1 6) from ((fr1 Fm132 6 rfl).trans ((fr1 Fm115 6 rfl).trans ((fr1 Fm97 6 rfl).trans ((fr1 Fm60 6 rfl).trans ((fr1 Fm44 6 rfl).trans ((fr1 Fm18 6 rfl).trans (fr1 Fm4 6 rfl))))))))] at h168
                          replace h169 : (m167.1 10) = 0 → (m132.1 10) = 0 ∧ (m132.1 7) = (125 : Int) := h169
                          replace h170 : (m132.1 8) ≤ (m167.1 8) := h170
                          replace h171 : (m167.1 10) = 0 → (m132.1 8) + (m132.1 9) ≤ (m167.1 8) := h171
                          have hf177 : 1 ≤ (m167.1 10) := by omega
                          clear h169
                          clear h171
                          have hLx := h168
                          clear g136 g137 g138 g139 g140 h134 hf164 h170
                          refine T_ret rfl (fun _ => rfl) ?_
                          exact ⟨(mO m167 [] []), Tm167, (fr_m (fr_s Fm167 (fr_m (fr_s Fm132 (fr_m (fr_s Fm115 (fr_m (fr_s Fm97 (fr_m (fr_s Fm60 (fr_m (fr_s Fm44 (fr_m (fr_s Fm18 (fr_m (fr_s Fm4 (fr_m fr_0 rfl rfl) rfl rfl) rfl rfl) rfl rfl) rfl rfl) rfl rfl) rfl rfl) rfl rfl) rfl rfl) rfl rfl) rfl rfl) rfl rfl) rfl rfl) rfl rfl) rfl rfl) rfl rfl) rfl rfl), (show (m167.1 10) = 0 → (m.1 10) = 0 by omega), (show LxP (m167.1 7) (m167.1 8) (m167.1 9) (m.1 6) (m167.1 10) by first | (first | exact hLx | exact (fun _ => hLx (by omega)) | (intro h9; exfalso; omega)) | (exfalso; omega)), (show ∀ k, (m167.2 14) k + (m167.2 15) k ≤ 4000 by rewrite [(show (m167.2 14) = (m18.2 14) from ((fr2 Fm167 14 rfl).trans ((fr2 Fm132 14 rfl).trans ((fr2 Fm115 14 rfl).trans ((fr2 Fm97 14 rfl).trans ((fr2 Fm60 14 rfl).trans (fr2 Fm44 14 rfl))))))), (show (m167.2 15) = (m18.2 15) from ((fr2 Fm167 15 rfl).trans ((fr2 Fm132 15 rfl).trans ((fr2 Fm115 15 rfl).trans ((fr2 Fm97 15 rfl).trans ((fr2 Fm60 15 rfl).trans (fr2 Fm44 15 rfl)))))))]; first | (exact hNM) | (exfalso; omega)), (fun (h : (m167.1 10) = 0) => absurd h (by omega)), rfl⟩
                      · skip
                        clear c118
                        clear h116
                        replace h117 : LxP (m115.1 7) (m115.1 8) (m115.1 9) (m97.1 6) (m115.1 10) := h117
                        rewrite [(show (m97.1 6) = (m.1 6) from ((fr1 Fm97 6 rfl).trans ((fr1 Fm60 6 rfl).trans ((fr1 Fm44 6 rfl).trans ((fr1 Fm18 6 rfl).trans (fr1 Fm4 6 rfl))))))] at h117
                        have hLx := h117
                        have hf178 : 1 ≤ (m115.1 10) := by omega
                        clear g101 g102 g103 g104 g105 h99 c107 u112 u111
                        refine T_ld 414 (.ref 189) rfl (fun _ => rfl) ?_
                        refine T_ld 415 (.int (i32 (m.1 26))) rfl (fun _ => rfl) ?_
                        refine T_call 418 278 [.ref 189, .int (i32 (m.1 26))] [] rfl (fun _ => rfl) rfl (c_takeRoom w (mO m115 [] []) c N D (by omega) Tm115 (m.1 26) (r32 (by omega) (by omega)) (show LxP (m115.1 7) (m115.1 8) (m115.1 9) (m115.1 6) (m115.1 10) by rewrite [(show (m115.1 6) = (m.1 6) from ((fr1 Fm115 6 rfl).trans ((fr1 Fm97 6 rfl).trans ((fr1 Fm60 6 rfl).trans ((fr1 Fm44 6 rfl).trans ((fr1 Fm18 6 rfl).trans (fr1 Fm4 6 rfl)))))))]; first | exact hLx | exact (fun _ => hLx (by omega)) | (intro h9; exfalso; omega)) (show 0 ≤ (m.1 26) ∧ (m.1 26) ≤ 7 by omega) (fun (h : (m115.1 10) = 0) => absurd h (by omega))) (fun rr179 k180 => ?_)
                        obtain ⟨m181, Tm181, Fm181, h182, h183, c184, rfl⟩ := k180
                        refine ⟨_, _, rfl, ?_⟩
                        refine T_nb (st' := []) rfl ?_
                        have g185 : 0 ≤ m181.1 7 ∧ m181.1 7 ≤ 330 := Tm181.1 7
                        have g186 : 0 ≤ m181.1 8 ∧ m181.1 8 ≤ 4000 := Tm181.1 8
                        have g187 : 0 ≤ m181.1 9 ∧ m181.1 9 ≤ 4000 := Tm181.1 9
                        have g188 : 0 ≤ m181.1 10 ∧ m181.1 10 ≤ 8 := Tm181.1 10
                        have g189 : (-1) ≤ m181.1 11 ∧ m181.1 11 ≤ 4000 := Tm181.1 11
                        replace h182 : (m181.1 10) = 0 → (m115.1 10) = 0 := h182
                        replace h183 : LxP (m181.1 7) (m181.1 8) (m181.1 9) (m115.1 6) (m181.1 10) := h183
                        rewrite [(show (m115.1 6) = (m.1 6) from ((fr1 Fm115 6 rfl).trans ((fr1 Fm97 6 rfl).trans ((fr1 Fm60 6 rfl).trans ((fr1 Fm44 6 rfl).trans ((fr1 Fm18 6 rfl).trans (fr1 Fm4 6 rfl)))))))] at h183
                        have hf190 : 1 ≤ (m181.1 10) := by omega
                        clear c184
                        clear h182
                        have hLx := h183
                        clear g119 g120 g121 g122 g123 h117 hf178
                        refine T_ld 419 (.ref 189) rfl (fun _ => rfl) ?_
                        refine T_ld 421 (.int (i32 125)) rfl (fun _ => rfl) ?_
                        refine T_call 424 232 [.ref 189, .int (i32 125)] [] rfl (fun _ => rfl) rfl (d_need w (mO m181 [] []) c N D (by omega) Tm181 125 ⟨by decide, by decide⟩ (show 1 ≤ (125 : Int) by omega) (show LxP (m181.1 7) (m181.1 8) (m181.1 9) (m181.1 6) (m181.1 10) by rewrite [(show (m181.1 6) = (m.1 6) from ((fr1 Fm181 6 rfl).trans ((fr1 Fm115 6 rfl).trans ((fr1 Fm97 6 rfl).trans ((fr1 Fm60 6 rfl).trans ((fr1 Fm44 6 rfl).trans ((fr1 Fm18 6 rfl).trans (fr1 Fm4 6 rfl))))))))]; first | exact hLx | (intro h9; exfalso; omega) | (intro h9; have h8 := hLx (by omega); omega))) (fun rr191 k192 => ?_)
                        obtain ⟨m193, Tm193, Fm193, h194, h195, h196, h197, rfl⟩ := k192
                        refine ⟨_, _, rfl, ?_⟩
                        refine T_nb (st' := []) rfl ?_
                        have g198 : 0 ≤ m193.1 7 ∧ m193.1 7 ≤ 330 := Tm193.1 7
                        have g199 : 0 ≤ m193.1 8 ∧ m193.1 8 ≤ 4000 := Tm193.1 8
                        have g200 : 0 ≤ m193.1 9 ∧ m193.1 9 ≤ 4000 := Tm193.1 9
                        have g201 : 0 ≤ m193.1 10 ∧ m193.1 10 ≤ 8 := Tm193.1 10
                        have g202 : (-1) ≤ m193.1 11 ∧ m193.1 11 ≤ 4000 := Tm193.1 11
                        replace h194 : LxP (m193.1 7) (m193.1 8) (m193.1 9) (m181.1 6) (m193.1 10) := h194
                        rewrite [(show (m181.1 6) = (m.1 6) from ((fr1 Fm181 6 rfl).trans ((fr1 Fm115 6 rfl).trans ((fr1 Fm97 6 rfl).trans ((fr1 Fm60 6 rfl).trans ((fr1 Fm44 6 rfl).trans ((fr1 Fm18 6 rfl).trans (fr1 Fm4 6 rfl))))))))] at h194
                        replace h195 : (m193.1 10) = 0 → (m181.1 10) = 0 ∧ (m181.1 7) = (125 : Int) := h195
                        replace h196 : (m181.1 8) ≤ (m193.1 8) := h196
                        replace h197 : (m193.1 10) = 0 → (m181.1 8) + (m181.1 9) ≤ (m193.1 8) := h197
                        have hf203 : 1 ≤ (m193.1 10) := by omega
                        clear h195
                        clear h197
                        have hLx := h194
                        clear g185 g186 g187 g188 g189 hf190 h183 h196
                        refine T_ret rfl (fun _ => rfl) ?_
                        exact ⟨(mO m193 [] []), Tm193, (fr_m (fr_s Fm193 (fr_m (fr_s Fm181 (fr_m (fr_s Fm115 (fr_m (fr_s Fm97 (fr_m (fr_s Fm60 (fr_m (fr_s Fm44 (fr_m (fr_s Fm18 (fr_m (fr_s Fm4 (fr_m fr_0 rfl rfl) rfl rfl) rfl rfl) rfl rfl) rfl rfl) rfl rfl) rfl rfl) rfl rfl) rfl rfl) rfl rfl) rfl rfl) rfl rfl) rfl rfl) rfl rfl) rfl rfl) rfl rfl) rfl rfl), (show (m193.1 10) = 0 → (m.1 10) = 0 by omega), (show LxP (m193.1 7) (m193.1 8) (m193.1 9) (m.1 6) (m193.1 10) by first | (first | exact hLx | exact (fun _ => hLx (by omega)) | (intro h9; exfalso; omega)) | (exfalso; omega)), (show ∀ k, (m193.2 14) k + (m193.2 15) k ≤ 4000 by rewrite [(show (m193.2 14) = (m18.2 14) from ((fr2 Fm193 14 rfl).trans ((fr2 Fm181 14 rfl).trans ((fr2 Fm115 14 rfl).trans ((fr2 Fm97 14 rfl).trans ((fr2 Fm60 14 rfl).trans (fr2 Fm44 14 rfl))))))), (show (m193.2 15) = (m18.2 15) from ((fr2 Fm193 15 rfl).trans ((fr2 Fm181 15 rfl).trans ((fr2 Fm115 15 rfl).trans ((fr2 Fm97 15 rfl).trans ((fr2 Fm60 15 rfl).trans (fr2 Fm44 15 rfl)))))))]; first | (exact hNM) | (exfalso; omega)), (fun (h : (m193.1 10) = 0) => absurd h (by omega)), rfl⟩
                    · skip
                      clear c100
                      clear h98
                      replace h99 : LxP (m97.1 7) (m97.1 8) (m97.1 9) (m60.1 6) (m97.1 10) := h99
                      rewrite [(show (m60.1 6) = (m.1 6) from ((fr1 Fm60 6 rfl).trans ((fr1 Fm44 6 rfl).trans ((fr1 Fm18 6 rfl).trans (fr1 Fm4 6 rfl)))))] at h99
                      have hLx := h99
                      have hf204 : 1 ≤ (m97.1 10) := by omega
                      clear g49 g50 g51 g52 g53 h45 u55 h56 h57 q72_7 q72_9 q72_11 ic66 h86
                      refine T_ld 409 (.ref 189) rfl (fun _ => rfl) ?_
                      refine T_ld 410 (.int (i32 (m.1 26))) rfl (fun _ => rfl) ?_
                      refine T_call 413 277 [.ref 189, .int (i32 (m.1 26))] [] rfl (fun _ => rfl) rfl (c_takeElse w (mO m97 [] []) c N D (by omega) Tm97 (m.1 26) (r32 (by omega) (by omega)) (show LxP (m97.1 7) (m97.1 8) (m97.1 9) (m97.1 6) (m97.1 10) by rewrite [(show (m97.1 6) = (m.1 6) from ((fr1 Fm97 6 rfl).trans ((fr1 Fm60 6 rfl).trans ((fr1 Fm44 6 rfl).trans ((fr1 Fm18 6 rfl).trans (fr1 Fm4 6 rfl))))))]; first | exact hLx | exact (fun _ => hLx (by omega)) | (intro h9; exfalso; omega)) (show ∀ k, (m97.2 14) k + (m97.2 15) k ≤ 4000 by rewrite [(show (m97.2 14) = (m18.2 14) from ((fr2 Fm97 14 rfl).trans ((fr2 Fm60 14 rfl).trans (fr2 Fm44 14 rfl)))), (show (m97.2 15) = (m18.2 15) from ((fr2 Fm97 15 rfl).trans ((fr2 Fm60 15 rfl).trans (fr2 Fm44 15 rfl))))]; assumption) (show 0 ≤ (m.1 26) ∧ (m.1 26) ≤ 7 by omega) (fun (h : (m97.1 10) = 0) => absurd h (by omega))) (fun rr205 k206 => ?_)
                      obtain ⟨m207, Tm207, Fm207, h208, h209, c210, rfl⟩ := k206
                      refine ⟨_, _, rfl, ?_⟩
                      refine T_nb (st' := []) rfl ?_
                      have g211 : 0 ≤ m207.1 7 ∧ m207.1 7 ≤ 330 := Tm207.1 7
                      have g212 : 0 ≤ m207.1 8 ∧ m207.1 8 ≤ 4000 := Tm207.1 8
                      have g213 : 0 ≤ m207.1 9 ∧ m207.1 9 ≤ 4000 := Tm207.1 9
                      have g214 : 0 ≤ m207.1 10 ∧ m207.1 10 ≤ 8 := Tm207.1 10
                      have g215 : (-1) ≤ m207.1 11 ∧ m207.1 11 ≤ 4000 := Tm207.1 11
                      replace h208 : (m207.1 10) = 0 → (m97.1 10) = 0 := h208
                      replace h209 : LxP (m207.1 7) (m207.1 8) (m207.1 9) (m97.1 6) (m207.1 10) := h209
                      rewrite [(show (m97.1 6) = (m.1 6) from ((fr1 Fm97 6 rfl).trans ((fr1 Fm60 6 rfl).trans ((fr1 Fm44 6 rfl).trans ((fr1 Fm18 6 rfl).trans (fr1 Fm4 6 rfl))))))] at h209
                      have hf216 : 1 ≤ (m207.1 10) := by omega
                      clear c210
                      clear h208
                      have hLx := h209
                      clear g101 g102 g103 g104 g105 h99 hf204
                      refine T_ld 414 (.ref 189) rfl (fun _ => rfl) ?_
                      refine T_ld 415 (.int (i32 (m.1 26))) rfl (fun _ => rfl) ?_
                      refine T_call 418 278 [.ref 189, .int (i32 (m.1 26))] [] rfl (fun _ => rfl) rfl (c_takeRoom w (mO m207 [] []) c N D (by omega) Tm207 (m.1 26) (r32 (by omega) (by omega)) (show LxP (m207.1 7) (m207.1 8) (m207.1 9) (m207.1 6) (m207.1 10) by rewrite [(show (m207.1 6) = (m.1 6) from ((fr1 Fm207 6 rfl).trans ((fr1 Fm97 6 rfl).trans ((fr1 Fm60 6 rfl).trans ((fr1 Fm44 6 rfl).trans ((fr1 Fm18 6 rfl).trans (fr1 Fm4 6 rfl)))))))]; first | exact hLx | exact (fun _ => hLx (by omega)) | (intro h9; exfalso; omega)) (show 0 ≤ (m.1 26) ∧ (m.1 26) ≤ 7 by omega) (fun (h : (m207.1 10) = 0) => absurd h (by omega))) (fun rr217 k218 => ?_)
                      obtain ⟨m219, Tm219, Fm219, h220, h221, c222, rfl⟩ := k218
                      refine ⟨_, _, rfl, ?_⟩
                      refine T_nb (st' := []) rfl ?_
                      have g223 : 0 ≤ m219.1 7 ∧ m219.1 7 ≤ 330 := Tm219.1 7
                      have g224 : 0 ≤ m219.1 8 ∧ m219.1 8 ≤ 4000 := Tm219.1 8
                      have g225 : 0 ≤ m219.1 9 ∧ m219.1 9 ≤ 4000 := Tm219.1 9
                      have g226 : 0 ≤ m219.1 10 ∧ m219.1 10 ≤ 8 := Tm219.1 10
                      have g227 : (-1) ≤ m219.1 11 ∧ m219.1 11 ≤ 4000 := Tm219.1 11
                      replace h220 : (m219.1 10) = 0 → (m207.1 10) = 0 := h220
                      replace h221 : LxP (m219.1 7) (m219.1 8) (m219.1 9) (m207.1 6) (m219.1 10) := h221
                      rewrite [(show (m207.1 6) = (m.1 6) from ((fr1 Fm207 6 rfl).trans ((fr1 Fm97 6 rfl).trans ((fr1 Fm60 6 rfl).trans ((fr1 Fm44 6 rfl).trans ((fr1 Fm18 6 rfl).trans (fr1 Fm4 6 rfl)))))))] at h221
                      have hf228 : 1 ≤ (m219.1 10) := by omega
                      clear c222
                      clear h220
                      have hLx := h221
                      clear g211 g212 g213 g214 g215 hf216 h209
                      refine T_ld 419 (.ref 189) rfl (fun _ => rfl) ?_
                      refine T_ld 421 (.int (i32 125)) rfl (fun _ => rfl) ?_
                      refine T_call 424 232 [.ref 189, .int (i32 125)] [] rfl (fun _ => rfl) rfl (d_need w (mO m219 [] []) c N D (by omega) Tm219 125 ⟨by decide, by decide⟩ (show 1 ≤ (125 : Int) by omega) (show LxP (m219.1 7) (m219.1 8) (m219.1 9) (m219.1 6) (m219.1 10) by rewrite [(show (m219.1 6) = (m.1 6) from ((fr1 Fm219 6 rfl).trans ((fr1 Fm207 6 rfl).trans ((fr1 Fm97 6 rfl).trans ((fr1 Fm60 6 rfl).trans ((fr1 Fm44 6 rfl).trans ((fr1 Fm18 6 rfl).trans (fr1 Fm4 6 rfl))))))))]; first | exact hLx | (intro h9; exfalso; omega) | (intro h9; have h8 := hLx (by omega); omega))) (fun rr229 k230 => ?_)
                      obtain ⟨m231, Tm231, Fm231, h232, h233, h234, h235, rfl⟩ := k230
                      refine ⟨_, _, rfl, ?_⟩
                      refine T_nb (st' := []) rfl ?_
                      have g236 : 0 ≤ m231.1 7 ∧ m231.1 7 ≤ 330 := Tm231.1 7
                      have g237 : 0 ≤ m231.1 8 ∧ m231.1 8 ≤ 4000 := Tm231.1 8
                      have g238 : 0 ≤ m231.1 9 ∧ m231.1 9 ≤ 4000 := Tm231.1 9
                      have g239 : 0 ≤ m231.1 10 ∧ m231.1 10 ≤ 8 := Tm231.1 10
                      have g240 : (-1) ≤ m231.1 11 ∧ m231.1 11 ≤ 4000 := Tm231.1 11
                      replace h232 : LxP (m231.1 7) (m231.1 8) (m231.1 9) (m219.1 6) (m231.1 10) := h232
                      rewrite [(show (m219.1 6) = (m.1 6) from ((fr1 Fm219 6 rfl).trans ((fr1 Fm207 6 rfl).trans ((fr1 Fm97 6 rfl).trans ((fr1 Fm60 6 rfl).trans ((fr1 Fm44 6 rfl).trans ((fr1 Fm18 6 rfl).trans (fr1 Fm4 6 rfl))))))))] at h232
                      replace h233 : (m231.1 10) = 0 → (m219.1 10) = 0 ∧ (m219.1 7) = (125 : Int) := h233
                      replace h234 : (m219.1 8) ≤ (m231.1 8) := h234
                      replace h235 : (m231.1 10) = 0 → (m219.1 8) + (m219.1 9) ≤ (m231.1 8) := h235
                      have hf241 : 1 ≤ (m231.1 10) := by omega
                      clear h233
                      clear h235
                      have hLx := h232
                      clear g223 g224 g225 g226 g227 hf228 h221 h234
                      refine T_ret rfl (fun _ => rfl) ?_
                      exact ⟨(mO m231 [] []), Tm231, (fr_m (fr_s Fm231 (fr_m (fr_s Fm219 (fr_m (fr_s Fm207 (fr_m (fr_s Fm97 (fr_m (fr_s Fm60 (fr_m (fr_s Fm44 (fr_m (fr_s Fm18 (fr_m (fr_s Fm4 (fr_m fr_0 rfl rfl) rfl rfl) rfl rfl) rfl rfl) rfl rfl) rfl rfl) rfl rfl) rfl rfl) rfl rfl) rfl rfl) rfl rfl) rfl rfl) rfl rfl) rfl rfl) rfl rfl) rfl rfl) rfl rfl), (show (m231.1 10) = 0 → (m.1 10) = 0 by omega), (show LxP (m231.1 7) (m231.1 8) (m231.1 9) (m.1 6) (m231.1 10) by first | (first | exact hLx | exact (fun _ => hLx (by omega)) | (intro h9; exfalso; omega)) | (exfalso; omega)), (show ∀ k, (m231.2 14) k + (m231.2 15) k ≤ 4000 by rewrite [(show (m231.2 14) = (m18.2 14) from ((fr2 Fm231 14 rfl).trans ((fr2 Fm219 14 rfl).trans ((fr2 Fm207 14 rfl).trans ((fr2 Fm97 14 rfl).trans ((fr2 Fm60 14 rfl).trans (fr2 Fm44 14 rfl))))))), (show (m231.2 15) = (m18.2 15) from ((fr2 Fm231 15 rfl).trans ((fr2 Fm219 15 rfl).trans ((fr2 Fm207 15 rfl).trans ((fr2 Fm97 15 rfl).trans ((fr2 Fm60 15 rfl).trans (fr2 Fm44 15 rfl)))))))]; first | (exact hNM) | (exfalso; omega)), (fun (h : (m231.1 10) = 0) => absurd h (by omega)), rfl⟩
                  refine T_if 401 393 rfl rfl rfl (r32 (by omega) (by omega)) (fun (h242 : v58 ≠ 0) => ?_) (fun (h242 : ¬ (v58 ≠ 0)) => ?_)
                  · skip
                    refine T_ld 402 (.int (i32 0)) rfl (fun _ => rfl) ?_
                    exact J402_88 0 ⟨by decide, by decide⟩ (show 0 ≤ (0 : Int) by omega) (show (0 : Int) ≤ 1 by omega)
                  · skip
                    refine T_ld 394 (.int (i32 v59)) rfl (fun _ => rfl) ?_
                    refine T_if 401 397 rfl rfl rfl (r32 (by omega) (by omega)) (fun (h243 : v59 ≠ 0) => ?_) (fun (h243 : ¬ (v59 ≠ 0)) => ?_)
                    · skip
                      refine T_ld 402 (.int (i32 0)) rfl (fun _ => rfl) ?_
                      exact J402_88 0 ⟨by decide, by decide⟩ (show 0 ≤ (0 : Int) by omega) (show (0 : Int) ≤ 1 by omega)
                    · skip
                      refine T_ld 398 (.int (i32 1)) rfl (fun _ => rfl) ?_
                      refine T_goto 402 rfl (fun _ => rfl) ?_
                      exact J402_88 1 ⟨by decide, by decide⟩ (show 0 ≤ (1 : Int) by omega) (show (1 : Int) ≤ 1 by omega)
                · skip
                  have h7 := hLx (by omega)
                  refine T_gf 122 (.ref 221) rfl rfl rfl rfl rfl rfl ?_
                  refine T_ld 123 (.int (i32 (m.1 26))) rfl (fun _ => rfl) ?_
                  refine T_iald 124 51 (m60.2 51) rfl rfl rfl (by omega) (show (m.1 26) < (8 : Int) by omega) rfl ?_
                  have e244 : 0 ≤ (m60.2 51) (m.1 26) ∧ (m60.2 51) (m.1 26) ≤ 4 := (Tm60.2.1 51) (m.1 26)
                  refine T_ld 125 (.int (i32 4)) rfl (fun _ => rfl) ?_
                  refine T_icmp 137 128 rfl rfl rfl (r32 (by omega) (by omega)) ⟨by decide, by decide⟩ (fun (h245 : (m60.2 51) (m.1 26) ≠ 4) => ?_) (fun (h245 : ¬ ((m60.2 51) (m.1 26) ≠ 4)) => ?_)
                  · skip
                    refine T_gf 141 (.int (i32 (m60.1 10))) rfl rfl rfl rfl rfl rfl ?_
                    refine T_if 145 144 rfl rfl rfl (r32 (by omega) (by omega)) (fun (h246 : (m60.1 10) ≤ 0) => ?_) (fun (h246 : ¬ ((m60.1 10) ≤ 0)) => by exfalso; omega)
                    refine T_ld 146 (.int (i32 4)) rfl (fun _ => rfl) ?_
                    refine T_ld 147 (.int (i32 (m.1 26))) rfl (fun _ => rfl) ?_
                    refine T_imul 148 rfl rfl ?_
                    refine T_gf 152 (.ref 221) rfl rfl rfl rfl rfl rfl ?_
                    refine T_ld 153 (.int (i32 (m.1 26))) rfl (fun _ => rfl) ?_
                    refine T_iald 154 51 (m60.2 51) rfl rfl rfl (by omega) (show (m.1 26) < (8 : Int) by omega) rfl ?_
                    have e247 : 0 ≤ (m60.2 51) (m.1 26) ∧ (m60.2 51) (m.1 26) ≤ 4 := (Tm60.2.1 51) (m.1 26)
                    refine T_iadd 155 rfl rfl ?_
                    refine T_sto 157 [(4, .int (i32 ((4 * (m.1 26)) + ((m60.2 51) (m.1 26))))), (0, .ref 189), (1, .int (i32 (m.1 26))), (2, .int (i32 v58)), (3, .int (i32 v59))] rfl (fun _ => rfl) ?_
                    refine T_ld 158 (.ref 189) rfl (fun _ => rfl) ?_
                    refine T_call 161 212 [.ref 189] [] rfl (fun _ => rfl) rfl (d_next w (mO m60 [] []) c N D (by omega) Tm60 (show (m60.1 10) = 0 → (m60.1 8) + (m60.1 9) ≤ (m60.1 6) by rewrite [(show (m60.1 6) = (m.1 6) from ((fr1 Fm60 6 rfl).trans ((fr1 Fm44 6 rfl).trans ((fr1 Fm18 6 rfl).trans (fr1 Fm4 6 rfl)))))]; first | omega | (intro h9; have h8 := hLx h9; omega))) (fun rr248 k249 => ?_)
                    obtain ⟨m250, Tm250, Fm250, h251, h252, h253, h254, rfl⟩ := k249
                    refine ⟨_, _, rfl, ?_⟩
                    refine T_nb (st' := []) rfl ?_
                    have g255 : 0 ≤ m250.1 7 ∧ m250.1 7 ≤ 330 := Tm250.1 7
                    have g256 : 0 ≤ m250.1 8 ∧ m250.1 8 ≤ 4000 := Tm250.1 8
                    have g257 : 0 ≤ m250.1 9 ∧ m250.1 9 ≤ 4000 := Tm250.1 9
                    have g258 : 0 ≤ m250.1 10 ∧ m250.1 10 ≤ 8 := Tm250.1 10
                    have g259 : (-1) ≤ m250.1 11 ∧ m250.1 11 ≤ 4000 := Tm250.1 11
                    by_cases hf260 : (m250.1 10) = 0
                    · skip
                      replace h251 : LxP (m250.1 7) (m250.1 8) (m250.1 9) (m60.1 6) (m250.1 10) := h251
                      rewrite [(show (m60.1 6) = (m.1 6) from ((fr1 Fm60 6 rfl).trans ((fr1 Fm44 6 rfl).trans ((fr1 Fm18 6 rfl).trans (fr1 Fm4 6 rfl)))))] at h251
                      have hLx := h251
                      replace h252 : (m60.1 10) = 0 := h252 hf260
                      replace h253 : (m60.1 8) ≤ (m250.1 8) := h253
                      replace h254 : (m60.1 8) + (m60.1 9) ≤ (m250.1 8) := h254 hf260
                      have u261 : (m60.1 8) ≤ (m250.1 8) := by omega
                      have u262 : (m.1 8) + 1 ≤ (m250.1 8) := by omega
                      have hAgC : agr (m.2 65) (m60.2 65) (m.1 28) := by first | exact agr_r _ _ | exact hAgC | exact agr_t hAgC hAg (by omega)
                      clear g49 g50 g51 g52 g53 h45 u55 h56 h57 q72_7 q72_9 q72_11 ic66 h86 h254
                      refine T_gf 165 (.ref 270) rfl rfl rfl rfl rfl rfl ?_
                      refine T_ld 167 (.int (i32 ((4 * (m.1 26)) + ((m60.2 51) (m.1 26))))) rfl (fun _ => rfl) ?_
                      refine T_gf 171 (.int (i32 (m60.1 28))) rfl rfl rfl rfl (mfv_c (F := fun x => .int (i32 x)) rfl (show (m250.1 28) = (m60.1 28) from (fr1 Fm250 28 rfl))) rfl ?_
                      have G263 : ∀ j, 0 ≤ (upI (m60.2 110) ((4 * (m.1 26)) + ((m60.2 51) (m.1 26))) (m60.1 28)) j ∧ (upI (m60.2 110) ((4 * (m.1 26)) + ((m60.2 51) (m.1 26))) (m60.1 28)) j ≤ 800 := upI_rg (Tm60.2.1 110) ⟨by omega, by omega⟩
                      refine T_iast (a' := [(110, upI (m60.2 110) ((4 * (m.1 26)) + ((m60.2 51) (m.1 26))) (m60.1 28))]) 172 110 (m60.2 110) rfl rfl rfl (by omega) (show ((4 * (m.1 26)) + ((m60.2 51) (m.1 26))) < (32 : Int) by omega) (show (m250.2 110) = (m60.2 110) from (fr2 Fm250 110 rfl)) rfl ?_
                      refine T_gf 176 (.int (i32 (m250.1 10))) rfl rfl rfl rfl rfl rfl ?_
                      refine T_if 183 179 rfl rfl rfl (r32 (by omega) (by omega)) (fun (h264 : (m250.1 10) ≠ 0) => by exfalso; omega) (fun (h264 : ¬ ((m250.1 10) ≠ 0)) => ?_)
                      refine T_ld 180 (.ref 189) rfl (fun _ => rfl) ?_
                      refine T_call 183 244 [.ref 189] [] rfl (fun _ => rfl) rfl (c_readExpr w (mO m250 [] [(110, upI (m60.2 110) ((4 * (m.1 26)) + ((m60.2 51) (m.1 26))) (m60.1 28))]) c N D (by omega) (Ty_mO Tm250 rfl rfl trivial ⟨G263, trivial⟩) (show LxP (m250.1 7) (m250.1 8) (m250.1 9) (m250.1 6) (m250.1 10) by rewrite [(show (m250.1 6) = (m.1 6) from ((fr1 Fm250 6 rfl).trans ((fr1 Fm60 6 rfl).trans ((fr1 Fm44 6 rfl).trans ((fr1 Fm18 6 rfl).trans (fr1 Fm4 6 rfl))))))]; first | exact hLx | exact (fun _ => hLx (by omega)) | (intro h9; exfalso; omega)) (show ∀ k, (m250.2 14) k + (m250.2 15) k ≤ 4000 by rewrite [(show (m250.2 14) = (m18.2 14) from ((fr2 Fm250 14 rfl).trans ((fr2 Fm60 14 rfl).trans (fr2 Fm44 14 rfl)))), (show (m250.2 15) = (m18.2 15) from ((fr2 Fm250 15 rfl).trans ((fr2 Fm60 15 rfl).trans (fr2 Fm44 15 rfl))))]; assumption) (show ∀ k, (m250.2 31) k + (m250.2 32) k ≤ 4000 by rewrite [(show (m250.2 31) = (m.2 31) from ((fr2 Fm250 31 rfl).trans ((fr2 Fm60 31 rfl).trans ((fr2 Fm44 31 rfl).trans ((fr2 Fm18 31 rfl).trans (fr2 Fm4 31 rfl)))))), (show (m250.2 32) = (m.2 32) from ((fr2 Fm250 32 rfl).trans ((fr2 Fm60 32 rfl).trans ((fr2 Fm44 32 rfl).trans ((fr2 Fm18 32 rfl).trans (fr2 Fm4 32 rfl))))))]; assumption) (show ∀ k, (m250.2 47) k + (m250.2 48) k ≤ 4000 by rewrite [(show (m250.2 47) = (m.2 47) from ((fr2 Fm250 47 rfl).trans ((fr2 Fm60 47 rfl).trans ((fr2 Fm44 47 rfl).trans ((fr2 Fm18 47 rfl).trans (fr2 Fm4 47 rfl)))))), (show (m250.2 48) = (m.2 48) from ((fr2 Fm250 48 rfl).trans ((fr2 Fm60 48 rfl).trans ((fr2 Fm44 48 rfl).trans ((fr2 Fm18 48 rfl).trans (fr2 Fm4 48 rfl))))))]; assumption) (fun _ => ⟨(show PN (m250.1 13) (m250.1 19) (m250.1 20) (m250.1 21) (m250.1 22) (m250.1 23) (m250.1 25) (m250.1 26) (m250.2 16) (m250.2 17) by rewrite [(show (m250.1 13) = (m18.1 13) from ((fr1 Fm250 13 rfl).trans ((fr1 Fm60 13 rfl).trans (fr1 Fm44 13 rfl)))), (show (m250.1 19) = (m.1 19) from ((fr1 Fm250 19 rfl).trans ((fr1 Fm60 19 rfl).trans ((fr1 Fm44 19 rfl).trans ((fr1 Fm18 19 rfl).trans (fr1 Fm4 19 rfl)))))), (show (m250.1 20) = (m.1 20) from ((fr1 Fm250 20 rfl).trans ((fr1 Fm60 20 rfl).trans ((fr1 Fm44 20 rfl).trans ((fr1 Fm18 20 rfl).trans (fr1 Fm4 20 rfl)))))), (show (m250.1 21) = (m.1 21) from ((fr1 Fm250 21 rfl).trans ((fr1 Fm60 21 rfl).trans ((fr1 Fm44 21 rfl).trans ((fr1 Fm18 21 rfl).trans (fr1 Fm4 21 rfl)))))), (show (m250.1 22) = (m.1 22) from ((fr1 Fm250 22 rfl).trans ((fr1 Fm60 22 rfl).trans ((fr1 Fm44 22 rfl).trans ((fr1 Fm18 22 rfl).trans (fr1 Fm4 22 rfl)))))), (show (m250.1 23) = (m.1 23) from ((fr1 Fm250 23 rfl).trans ((fr1 Fm60 23 rfl).trans ((fr1 Fm44 23 rfl).trans ((fr1 Fm18 23 rfl).trans (fr1 Fm4 23 rfl)))))), (show (m250.1 25) = (m.1 25) from ((fr1 Fm250 25 rfl).trans ((fr1 Fm60 25 rfl).trans ((fr1 Fm44 25 rfl).trans ((fr1 Fm18 25 rfl).trans (fr1 Fm4 25 rfl)))))), (show (m250.1 26) = ((m.1 26) + 1) from ((fr1 Fm250 26 rfl).trans ((fr1 Fm60 26 rfl).trans (fr1 Fm44 26 rfl)))), (show (m250.2 16) = (m18.2 16) from ((fr2 Fm250 16 rfl).trans ((fr2 Fm60 16 rfl).trans (fr2 Fm44 16 rfl)))), (show (m250.2 17) = (m18.2 17) from ((fr2 Fm250 17 rfl).trans ((fr2 Fm60 17 rfl).trans (fr2 Fm44 17 rfl))))]; assumption), (show CN (m250.2 65) (m250.2 67) (m250.1 28) by rewrite [(show (m250.2 65) = (m60.2 65) from (fr2 Fm250 65 rfl)), (show (m250.2 67) = (m60.2 67) from (fr2 Fm250 67 rfl)), (show (m250.1 28) = (m60.1 28) from (fr1 Fm250 28 rfl))]; assumption)⟩)) (fun rr265 k266 => ?_)
                      obtain ⟨m267, Tm267, Fm267, h268, h269, c270, rfl⟩ := k266
                      refine ⟨_, _, rfl, ?_⟩
                      refine T_nb (st' := []) rfl ?_
                      have g271 : 0 ≤ m267.1 7 ∧ m267.1 7 ≤ 330 := Tm267.1 7
                      have g272 : 0 ≤ m267.1 8 ∧ m267.1 8 ≤ 4000 := Tm267.1 8
                      have g273 : 0 ≤ m267.1 9 ∧ m267.1 9 ≤ 4000 := Tm267.1 9
                      have g274 : 0 ≤ m267.1 10 ∧ m267.1 10 ≤ 8 := Tm267.1 10
                      have g275 : (-1) ≤ m267.1 11 ∧ m267.1 11 ≤ 4000 := Tm267.1 11
                      have g276 : 0 ≤ m267.1 28 ∧ m267.1 28 ≤ 800 := Tm267.1 28
                      have g277 : 0 ≤ m267.1 69 ∧ m267.1 69 ≤ 1024 := Tm267.1 69
                      by_cases hf278 : (m267.1 10) = 0
                      · skip
                        replace h268 : (m250.1 10) = 0 := h268 hf278
                        replace h269 : LxP (m267.1 7) (m267.1 8) (m267.1 9) (m250.1 6) (m267.1 10) := h269
                        rewrite [(show (m250.1 6) = (m.1 6) from ((fr1 Fm250 6 rfl).trans ((fr1 Fm60 6 rfl).trans ((fr1 Fm44 6 rfl).trans ((fr1 Fm18 6 rfl).trans (fr1 Fm4 6 rfl))))))] at h269
                        have hLx := h269
                        obtain ⟨c279, c280, c281, c282, c283, c284⟩ := c270 hf278
                        replace c279 : (m250.1 8) + 1 ≤ (m267.1 8) := c279
                        replace c280 : (m267.1 69) ≤ 64 := c280
                        replace c281 : (m250.1 28) ≤ (m267.1 28) := c281
                        rewrite [(show (m250.1 28) = (m60.1 28) from (fr1 Fm250 28 rfl))] at c281
                        replace c282 : okc (m267.2 65) (m250.1 28) (m267.1 28) := c282
                        rewrite [(show (m250.1 28) = (m60.1 28) from (fr1 Fm250 28 rfl))] at c282
                        have hOk := c282
                        replace c283 : CN (m267.2 65) (m267.2 67) (m267.1 28) := c283
                        have hCN := c283
                        replace c284 : agr (m250.2 65) (m267.2 65) (m250.1 28) := c284
                        rewrite [(show (m250.2 65) = (m60.2 65) from (fr2 Fm250 65 rfl)), (show (m250.1 28) = (m60.1 28) from (fr1 Fm250 28 rfl))] at c284
                        have hAg := c284
                        clear c270
                        have u285 : (m60.1 8) + 1 ≤ (m267.1 8) := by omega
                        have u286 : (m.1 8) + 1 ≤ (m267.1 8) := by omega
                        have hAgC : agr (m.2 65) (m267.2 65) (m.1 28) := by first | exact agr_r _ _ | exact hAgC | exact agr_t hAgC hAg (by omega)
                        clear q72_69 c78 c80 c81 g255 g256 g257 g258 g259 h251 h253 u262 u261 h264 h268 c279 c284
                        refine T_gf 187 (.ref 271) rfl rfl rfl rfl rfl rfl ?_
                        refine T_ld 189 (.int (i32 ((4 * (m.1 26)) + ((m60.2 51) (m.1 26))))) rfl (fun _ => rfl) ?_
                        refine T_gf 193 (.int (i32 (m267.1 28))) rfl rfl rfl rfl rfl rfl ?_
                        have G287 : ∀ j, 0 ≤ (upI (m60.2 111) ((4 * (m.1 26)) + ((m60.2 51) (m.1 26))) (m267.1 28)) j ∧ (upI (m60.2 111) ((4 * (m.1 26)) + ((m60.2 51) (m.1 26))) (m267.1 28)) j ≤ 800 := upI_rg (Tm60.2.1 111) ⟨by omega, by omega⟩
                        refine T_iast (a' := [(111, upI (m60.2 111) ((4 * (m.1 26)) + ((m60.2 51) (m.1 26))) (m267.1 28))]) 194 111 (m60.2 111) rfl rfl rfl (by omega) (show ((4 * (m.1 26)) + ((m60.2 51) (m.1 26))) < (32 : Int) by omega) (show (m267.2 111) = (m60.2 111) from ((fr2 Fm267 111 rfl).trans (fr2 Fm250 111 rfl))) rfl ?_
                        have hCd : cdr (m267.2 65) (m267.1 28) ((upI (m60.2 110) ((4 * (m.1 26)) + ((m60.2 51) (m.1 26))) (m60.1 28)) ((4 * (m.1 26)) + ((m60.2 51) (m.1 26)))) ((upI (m60.2 111) ((4 * (m.1 26)) + ((m60.2 51) (m.1 26))) (m267.1 28)) ((4 * (m.1 26)) + ((m60.2 51) (m.1 26)))) := by rw [upI_s, upI_s]; exact ⟨hOk, by omega⟩
                        have hAgK := hAg
                        refine T_gf 198 (.int (i32 (m267.1 69))) rfl rfl rfl rfl rfl rfl ?_
                        refine T_sto 200 [(5, .int (i32 (m267.1 69))), (4, .int (i32 ((4 * (m.1 26)) + ((m60.2 51) (m.1 26))))), (0, .ref 189), (1, .int (i32 (m.1 26))), (2, .int (i32 v58)), (3, .int (i32 v59))] rfl (fun _ => rfl) ?_
                        refine T_gf 204 (.ref 272) rfl rfl rfl rfl rfl rfl ?_
                        refine T_ld 206 (.int (i32 ((4 * (m.1 26)) + ((m60.2 51) (m.1 26))))) rfl (fun _ => rfl) ?_
                        refine T_ld 208 (.int (i32 (m267.1 69))) rfl (fun _ => rfl) ?_
                        have G288 : ∀ j, 0 ≤ (upI (m60.2 112) ((4 * (m.1 26)) + ((m60.2 51) (m.1 26))) (m267.1 69)) j ∧ (upI (m60.2 112) ((4 * (m.1 26)) + ((m60.2 51) (m.1 26))) (m267.1 69)) j ≤ 1024 := upI_rg (Tm60.2.1 112) ⟨by omega, by omega⟩
                        refine T_iast (a' := [(111, upI (m60.2 111) ((4 * (m.1 26)) + ((m60.2 51) (m.1 26))) (m267.1 28)), (112, upI (m60.2 112) ((4 * (m.1 26)) + ((m60.2 51) (m.1 26))) (m267.1 69))]) 209 112 (m60.2 112) rfl rfl rfl (by omega) (show ((4 * (m.1 26)) + ((m60.2 51) (m.1 26))) < (32 : Int) by omega) (show (m267.2 112) = (m60.2 112) from ((fr2 Fm267 112 rfl).trans (fr2 Fm250 112 rfl))) rfl ?_
                        refine T_ld 210 (.ref 189) rfl (fun _ => rfl) ?_
                        refine T_ld 212 (.int (i32 58)) rfl (fun _ => rfl) ?_
                        refine T_call 215 232 [.ref 189, .int (i32 58)] [] rfl (fun _ => rfl) rfl (d_need w (mO m267 [] [(111, upI (m60.2 111) ((4 * (m.1 26)) + ((m60.2 51) (m.1 26))) (m267.1 28)), (112, upI (m60.2 112) ((4 * (m.1 26)) + ((m60.2 51) (m.1 26))) (m267.1 69))]) c N D (by omega) (Ty_mO Tm267 rfl rfl trivial ⟨G287, G288, trivial⟩) 58 ⟨by decide, by decide⟩ (show 1 ≤ (58 : Int) by omega) (show LxP (m267.1 7) (m267.1 8) (m267.1 9) (m267.1 6) (m267.1 10) by rewrite [(show (m267.1 6) = (m.1 6) from ((fr1 Fm267 6 rfl).trans ((fr1 Fm250 6 rfl).trans ((fr1 Fm60 6 rfl).trans ((fr1 Fm44 6 rfl).trans ((fr1 Fm18 6 rfl).trans (fr1 Fm4 6 rfl)))))))]; first | exact hLx | (intro h9; exfalso; omega) | (intro h9; have h8 := hLx (by omega); omega))) (fun rr289 k290 => ?_)
                        obtain ⟨m291, Tm291, Fm291, h292, h293, h294, h295, rfl⟩ := k290
                        refine ⟨_, _, rfl, ?_⟩
                        refine T_nb (st' := []) rfl ?_
                        have g296 : 0 ≤ m291.1 7 ∧ m291.1 7 ≤ 330 := Tm291.1 7
                        have g297 : 0 ≤ m291.1 8 ∧ m291.1 8 ≤ 4000 := Tm291.1 8
                        have g298 : 0 ≤ m291.1 9 ∧ m291.1 9 ≤ 4000 := Tm291.1 9
                        have g299 : 0 ≤ m291.1 10 ∧ m291.1 10 ≤ 8 := Tm291.1 10
                        have g300 : (-1) ≤ m291.1 11 ∧ m291.1 11 ≤ 4000 := Tm291.1 11
                        by_cases hf301 : (m291.1 10) = 0
                        · skip
                          replace h292 : LxP (m291.1 7) (m291.1 8) (m291.1 9) (m267.1 6) (m291.1 10) := h292
                          rewrite [(show (m267.1 6) = (m.1 6) from ((fr1 Fm267 6 rfl).trans ((fr1 Fm250 6 rfl).trans ((fr1 Fm60 6 rfl).trans ((fr1 Fm44 6 rfl).trans ((fr1 Fm18 6 rfl).trans (fr1 Fm4 6 rfl)))))))] at h292
                          have hLx := h292
                          replace h293 : (m267.1 10) = 0 ∧ (m267.1 7) = (58 : Int) := h293 hf301
                          replace h294 : (m267.1 8) ≤ (m291.1 8) := h294
                          replace h295 : (m267.1 8) + (m267.1 9) ≤ (m291.1 8) := h295 hf301
                          have u302 : (m60.1 8) + 1 ≤ (m291.1 8) := by omega
                          have u303 : (m.1 8) + 1 ≤ (m291.1 8) := by omega
                          have hAgC : agr (m.2 65) (m267.2 65) (m.1 28) := by first | exact agr_r _ _ | exact hAgC | exact agr_t hAgC hAg (by omega)
                          clear g271 g272 g273 g274 g275 h269 u286 u285 h293 h294 h295
                          refine T_gf 219 (.int (i32 (m291.1 8))) rfl rfl rfl rfl rfl rfl ?_
                          refine T_sto 221 [(6, .int (i32 (m291.1 8))), (5, .int (i32 (m267.1 69))), (4, .int (i32 ((4 * (m.1 26)) + ((m60.2 51) (m.1 26))))), (0, .ref 189), (1, .int (i32 (m.1 26))), (2, .int (i32 v58)), (3, .int (i32 v59))] rfl (fun _ => rfl) ?_
                          refine T_gf 225 (.int (i32 (m291.1 7))) rfl rfl rfl rfl rfl rfl ?_
                          refine T_sto 227 [(7, .int (i32 (m291.1 7))), (6, .int (i32 (m291.1 8))), (5, .int (i32 (m267.1 69))), (4, .int (i32 ((4 * (m.1 26)) + ((m60.2 51) (m.1 26))))), (0, .ref 189), (1, .int (i32 (m.1 26))), (2, .int (i32 v58)), (3, .int (i32 v59))] rfl (fun _ => rfl) ?_
                          refine T_gf 231 (.int (i32 (m291.1 10))) rfl rfl rfl rfl rfl rfl ?_
                          refine T_if 262 234 rfl rfl rfl (r32 (by omega) (by omega)) (fun (h304 : (m291.1 10) ≠ 0) => by exfalso; omega) (fun (h304 : ¬ ((m291.1 10) ≠ 0)) => ?_)
                          refine T_ld 236 (.int (i32 (m291.1 7))) rfl (fun _ => rfl) ?_
                          refine T_ld 239 (.int (i32 312)) rfl (fun _ => rfl) ?_
                          refine T_icmp 262 242 rfl rfl rfl (r32 (by omega) (by omega)) ⟨by decide, by decide⟩ (fun (h305 : (m291.1 7) = 312) => ?_) (fun (h305 : ¬ ((m291.1 7) = 312)) => ?_)
                          · skip
                            refine T_ld 263 (.ref 189) rfl (fun _ => rfl) ?_
                            refine T_call 266 212 [.ref 189] [] rfl (fun _ => rfl) rfl (d_next w (mO m291 [] []) c N D (by omega) Tm291 (show (m291.1 10) = 0 → (m291.1 8) + (m291.1 9) ≤ (m291.1 6) by rewrite [(show (m291.1 6) = (m.1 6) from ((fr1 Fm291 6 rfl).trans ((fr1 Fm267 6 rfl).trans ((fr1 Fm250 6 rfl).trans ((fr1 Fm60 6 rfl).trans ((fr1 Fm44 6 rfl).trans ((fr1 Fm18 6 rfl).trans (fr1 Fm4 6 rfl))))))))]; first | omega | (intro h9; have h8 := hLx h9; omega))) (fun rr306 k307 => ?_)
                            obtain ⟨m308, Tm308, Fm308, h309, h310, h311, h312, rfl⟩ := k307
                            refine ⟨_, _, rfl, ?_⟩
                            refine T_nb (st' := []) rfl ?_
                            have g313 : 0 ≤ m308.1 7 ∧ m308.1 7 ≤ 330 := Tm308.1 7
                            have g314 : 0 ≤ m308.1 8 ∧ m308.1 8 ≤ 4000 := Tm308.1 8
                            have g315 : 0 ≤ m308.1 9 ∧ m308.1 9 ≤ 4000 := Tm308.1 9
                            have g316 : 0 ≤ m308.1 10 ∧ m308.1 10 ≤ 8 := Tm308.1 10
                            have g317 : (-1) ≤ m308.1 11 ∧ m308.1 11 ≤ 4000 := Tm308.1 11
                            by_cases hf318 : (m308.1 10) = 0
                            · skip
                              replace h309 : LxP (m308.1 7) (m308.1 8) (m308.1 9) (m291.1 6) (m308.1 10) := h309
                              rewrite [(show (m291.1 6) = (m.1 6) from ((fr1 Fm291 6 rfl).trans ((fr1 Fm267 6 rfl).trans ((fr1 Fm250 6 rfl).trans ((fr1 Fm60 6 rfl).trans ((fr1 Fm44 6 rfl).trans ((fr1 Fm18 6 rfl).trans (fr1 Fm4 6 rfl))))))))] at h309
                              have hLx := h309
                              replace h310 : (m291.1 10) = 0 := h310 hf318
                              replace h311 : (m291.1 8) ≤ (m308.1 8) := h311
                              replace h312 : (m291.1 8) + (m291.1 9) ≤ (m308.1 8) := h312 hf318
                              have u319 : (m60.1 8) + 1 ≤ (m308.1 8) := by omega
                              have u320 : (m.1 8) + 1 ≤ (m308.1 8) := by omega
                              have hAgC : agr (m.2 65) (m267.2 65) (m.1 28) := by first | exact agr_r _ _ | exact hAgC | exact agr_t hAgC hAg (by omega)
                              clear g298 g299 g300 h292 h304 h310 h312
                              refine T_gf 270 (.int (i32 (m308.1 10))) rfl rfl rfl rfl rfl rfl ?_
                              refine T_if 309 273 rfl rfl rfl (r32 (by omega) (by omega)) (fun (h321 : (m308.1 10) ≠ 0) => by exfalso; omega) (fun (h321 : ¬ ((m308.1 10) ≠ 0)) => ?_)
                              refine T_ld 275 (.int (i32 (m291.1 7))) rfl (fun _ => rfl) ?_
                              refine T_ld 278 (.int (i32 313)) rfl (fun _ => rfl) ?_
                              refine T_icmp 289 281 rfl rfl rfl (r32 (by omega) (by omega)) ⟨by decide, by decide⟩ (fun (h322 : (m291.1 7) ≠ 313) => ?_) (fun (h322 : ¬ ((m291.1 7) ≠ 313)) => by exfalso; omega)
                              refine T_ld 291 (.int (i32 (m291.1 7))) rfl (fun _ => rfl) ?_
                              refine T_ld 294 (.int (i32 314)) rfl (fun _ => rfl) ?_
                              refine T_icmp 309 297 rfl rfl rfl (r32 (by omega) (by omega)) ⟨by decide, by decide⟩ (fun (h323 : (m291.1 7) ≠ 314) => ?_) (fun (h323 : ¬ ((m291.1 7) ≠ 314)) => by exfalso; omega)
                              refine T_gf 313 (.ref 273) rfl rfl rfl rfl rfl rfl ?_
                              refine T_ld 315 (.int (i32 ((4 * (m.1 26)) + ((m60.2 51) (m.1 26))))) rfl (fun _ => rfl) ?_
                              refine T_ld 317 (.int (i32 (m291.1 7))) rfl (fun _ => rfl) ?_
                              have G324 : ∀ j, 0 ≤ (upI (m60.2 113) ((4 * (m.1 26)) + ((m60.2 51) (m.1 26))) (m291.1 7)) j ∧ (upI (m60.2 113) ((4 * (m.1 26)) + ((m60.2 51) (m.1 26))) (m291.1 7)) j ≤ 330 := upI_rg (Tm60.2.1 113) ⟨by omega, by omega⟩
                              refine T_iast (a' := [(113, upI (m60.2 113) ((4 * (m.1 26)) + ((m60.2 51) (m.1 26))) (m291.1 7))]) 318 113 (m60.2 113) rfl rfl rfl (by omega) (show ((4 * (m.1 26)) + ((m60.2 51) (m.1 26))) < (32 : Int) by omega) (show (m308.2 113) = (m60.2 113) from ((fr2 Fm308 113 rfl).trans ((fr2 Fm291 113 rfl).trans ((fr2 Fm267 113 rfl).trans (fr2 Fm250 113 rfl))))) rfl ?_
                              refine T_ld 319 (.int (i32 v58)) rfl (fun _ => rfl) ?_
                              have J335_326 : ∀ (s325 : Int), (R32 s325) → (0 ≤ s325) → (s325 ≤ 1) → TT w D pm_275 (335, [(0, .ref 189), (1, .int (i32 (m.1 26))), (2, .int (i32 v58)), (3, .int (i32 v59)), (4, .int (i32 ((4 * (m.1 26)) + ((m60.2 51) (m.1 26))))), (5, .int (i32 (m267.1 69))), (6, .int (i32 (m291.1 8))), (7, .int (i32 (m291.1 7)))], [.int (i32 s325)], (mhp (mO m308 [] [(113, upI (m60.2 113) ((4 * (m.1 26)) + ((m60.2 51) (m.1 26))) (m291.1 7))]) c, N), 0, 0) (Q_takeTable m c N) := by
                                intro s325 q329 ic327 ic328
                                obtain ⟨q329a, q329b⟩ := id q329
                                refine T_sto 336 [(2, .int (i32 s325)), (0, .ref 189), (1, .int (i32 (m.1 26))), (3, .int (i32 v59)), (4, .int (i32 ((4 * (m.1 26)) + ((m60.2 51) (m.1 26))))), (5, .int (i32 (m267.1 69))), (6, .int (i32 (m291.1 8))), (7, .int (i32 (m291.1 7)))] rfl (fun _ => rfl) ?_
                                refine T_ld 337 (.int (i32 v59)) rfl (fun _ => rfl) ?_
                                have J353_333 : ∀ (s332 : Int), (R32 s332) → (0 ≤ s332) → (s332 ≤ 1) → TT w D pm_275 (353, [(0, .ref 189), (1, .int (i32 (m.1 26))), (2, .int (i32 s325)), (3, .int (i32 v59)), (4, .int (i32 ((4 * (m.1 26)) + ((m60.2 51) (m.1 26))))), (5, .int (i32 (m267.1 69))), (6, .int (i32 (m291.1 8))), (7, .int (i32 (m291.1 7)))], [.int (i32 s332)], (mhp (mO m308 [] [(113, upI (m60.2 113) ((4 * (m.1 26)) + ((m60.2 51) (m.1 26))) (m291.1 7))]) c, N), 0, 0) (Q_takeTable m c N) := by
                                  intro s332 q336 ic334 ic335
                                  obtain ⟨q336a, q336b⟩ := id q336
                                  refine T_sto 354 [(3, .int (i32 s332)), (0, .ref 189), (1, .int (i32 (m.1 26))), (2, .int (i32 s325)), (4, .int (i32 ((4 * (m.1 26)) + ((m60.2 51) (m.1 26))))), (5, .int (i32 (m267.1 69))), (6, .int (i32 (m291.1 8))), (7, .int (i32 (m291.1 7)))] rfl (fun _ => rfl) ?_
                                  refine T_ld 355 (.ref 189) rfl (fun _ => rfl) ?_
                                  refine T_ld 357 (.int (i32 59)) rfl (fun _ => rfl) ?_
                                  refine T_call 360 232 [.ref 189, .int (i32 59)] [] rfl (fun _ => rfl) rfl (d_need w (mO m308 [] [(113, upI (m60.2 113) ((4 * (m.1 26)) + ((m60.2 51) (m.1 26))) (m291.1 7))]) c N D (by omega) (Ty_mO Tm308 rfl rfl trivial ⟨G324, trivial⟩) 59 ⟨by decide, by decide⟩ (show 1 ≤ (59 : Int) by omega) (show LxP (m308.1 7) (m308.1 8) (m308.1 9) (m308.1 6) (m308.1 10) by rewrite [(show (m308.1 6) = (m.1 6) from ((fr1 Fm308 6 rfl).trans ((fr1 Fm291 6 rfl).trans ((fr1 Fm267 6 rfl).trans ((fr1 Fm250 6 rfl).trans ((fr1 Fm60 6 rfl).trans ((fr1 Fm44 6 rfl).trans ((fr1 Fm18 6 rfl).trans (fr1 Fm4 6 rfl)))))))))]; first | exact hLx | (intro h9; exfalso; omega) | (intro h9; have h8 := hLx (by omega); omega))) (fun rr339 k340 => ?_)
                                  obtain ⟨m341, Tm341, Fm341, h342, h343, h344, h345, rfl⟩ := k340
                                  refine ⟨_, _, rfl, ?_⟩
                                  refine T_nb (st' := []) rfl ?_
                                  have g346 : 0 ≤ m341.1 7 ∧ m341.1 7 ≤ 330 := Tm341.1 7
                                  have g347 : 0 ≤ m341.1 8 ∧ m341.1 8 ≤ 4000 := Tm341.1 8
                                  have g348 : 0 ≤ m341.1 9 ∧ m341.1 9 ≤ 4000 := Tm341.1 9
                                  have g349 : 0 ≤ m341.1 10 ∧ m341.1 10 ≤ 8 := Tm341.1 10
                                  have g350 : (-1) ≤ m341.1 11 ∧ m341.1 11 ≤ 4000 := Tm341.1 11
                                  by_cases hf351 : (m341.1 10) = 0
                                  · skip
                                    replace h342 : LxP (m341.1 7) (m341.1 8) (m341.1 9) (m308.1 6) (m341.1 10) := h342
                                    rewrite [(show (m308.1 6) = (m.1 6) from ((fr1 Fm308 6 rfl).trans ((fr1 Fm291 6 rfl).trans ((fr1 Fm267 6 rfl).trans ((fr1 Fm250 6 rfl).trans ((fr1 Fm60 6 rfl).trans ((fr1 Fm44 6 rfl).trans ((fr1 Fm18 6 rfl).trans (fr1 Fm4 6 rfl)))))))))] at h342
                                    have hLx := h342
                                    replace h343 : (m308.1 10) = 0 ∧ (m308.1 7) = (59 : Int) := h343 hf351
                                    replace h344 : (m308.1 8) ≤ (m341.1 8) := h344
                                    replace h345 : (m308.1 8) + (m308.1 9) ≤ (m341.1 8) := h345 hf351
                                    have u352 : (m60.1 8) + 1 ≤ (m341.1 8) := by omega
                                    have u353 : (m.1 8) + 1 ≤ (m341.1 8) := by omega
                                    have hAgC : agr (m.2 65) (m267.2 65) (m.1 28) := by first | exact agr_r _ _ | exact hAgC | exact agr_t hAgC hAg (by omega)
                                    clear q70a q70b q70 q71a q71b q71 ic62 ic63 ic64 ic65 ic67 ic68 g313 g314 g315 g316 g317 h309 h311 u320 u319 h321 h343 h344 h345
                                    refine T_gf 364 (.ref 221) rfl rfl rfl rfl rfl rfl ?_
                                    refine T_ld 365 (.int (i32 (m.1 26))) rfl (fun _ => rfl) ?_
                                    refine T_dup2 366 rfl (fun _ => rfl) ?_
                                    refine T_iald 367 51 (m60.2 51) rfl rfl rfl (by omega) (show (m.1 26) < (8 : Int) by omega) (show (m341.2 51) = (m60.2 51) from ((fr2 Fm341 51 rfl).trans ((fr2 Fm308 51 rfl).trans ((fr2 Fm291 51 rfl).trans ((fr2 Fm267 51 rfl).trans (fr2 Fm250 51 rfl)))))) ?_
                                    have e354 : 0 ≤ (m60.2 51) (m.1 26) ∧ (m60.2 51) (m.1 26) ≤ 4 := (Tm60.2.1 51) (m.1 26)
                                    refine T_ld 368 (.int (i32 1)) rfl (fun _ => rfl) ?_
                                    refine T_iadd 369 rfl rfl ?_
                                    have G355 : ∀ j, 0 ≤ (upI (m60.2 51) (m.1 26) (((m60.2 51) (m.1 26)) + 1)) j ∧ (upI (m60.2 51) (m.1 26) (((m60.2 51) (m.1 26)) + 1)) j ≤ 4 := upI_rg (Tm60.2.1 51) ⟨by omega, by omega⟩
                                    refine T_iast (a' := [(51, upI (m60.2 51) (m.1 26) (((m60.2 51) (m.1 26)) + 1))]) 370 51 (m60.2 51) rfl rfl rfl (by omega) (show (m.1 26) < (8 : Int) by omega) (show (m341.2 51) = (m60.2 51) from ((fr2 Fm341 51 rfl).trans ((fr2 Fm308 51 rfl).trans ((fr2 Fm291 51 rfl).trans ((fr2 Fm267 51 rfl).trans (fr2 Fm250 51 rfl)))))) rfl ?_
                                    refine T_gf 374 (.ref 222) rfl rfl rfl rfl rfl rfl ?_
                                    refine T_ld 375 (.int (i32 (m.1 26))) rfl (fun _ => rfl) ?_
                                    refine T_dup2 376 rfl (fun _ => rfl) ?_
                                    refine T_iald 377 52 (m60.2 52) rfl rfl rfl (by omega) (show (m.1 26) < (8 : Int) by omega) (show (m341.2 52) = (m60.2 52) from ((fr2 Fm341 52 rfl).trans ((fr2 Fm308 52 rfl).trans ((fr2 Fm291 52 rfl).trans ((fr2 Fm267 52 rfl).trans (fr2 Fm250 52 rfl)))))) ?_
                                    have e356 : 0 ≤ (m60.2 52) (m.1 26) ∧ (m60.2 52) (m.1 26) ≤ 4096 := (Tm60.2.1 52) (m.1 26)
                                    refine T_ld 379 (.int (i32 (m267.1 69))) rfl (fun _ => rfl) ?_
                                    refine T_iadd 380 rfl rfl ?_
                                    have G357 : ∀ j, 0 ≤ (upI (m60.2 52) (m.1 26) (((m60.2 52) (m.1 26)) + (m267.1 69))) j ∧ (upI (m60.2 52) (m.1 26) (((m60.2 52) (m.1 26)) + (m267.1 69))) j ≤ 4096 := upI_rg (Tm60.2.1 52) ⟨by omega, by omega⟩
                                    refine T_iast (a' := [(51, upI (m60.2 51) (m.1 26) (((m60.2 51) (m.1 26)) + 1)), (52, upI (m60.2 52) (m.1 26) (((m60.2 52) (m.1 26)) + (m267.1 69)))]) 381 52 (m60.2 52) rfl rfl rfl (by omega) (show (m.1 26) < (8 : Int) by omega) (show (m341.2 52) = (m60.2 52) from ((fr2 Fm341 52 rfl).trans ((fr2 Fm308 52 rfl).trans ((fr2 Fm291 52 rfl).trans ((fr2 Fm267 52 rfl).trans (fr2 Fm250 52 rfl)))))) rfl ?_
                                    have hKY : ∀ k, 4 * (m.1 26) ≤ k → k < 4 * (m.1 26) + (upI (m60.2 51) (m.1 26) (((m60.2 51) (m.1 26)) + 1)) (m.1 26) → cdr (m267.2 65) (m267.1 28) ((upI (m60.2 110) ((4 * (m.1 26)) + ((m60.2 51) (m.1 26))) (m60.1 28)) k) ((upI (m60.2 111) ((4 * (m.1 26)) + ((m60.2 51) (m.1 26))) (m267.1 28)) k) := by
                                      intro k k0 k1
                                      rw [upI_s] at k1
                                      by_cases e : k = ((4 * (m.1 26)) + ((m60.2 51) (m.1 26)))
                                      · rw [e]
                                        exact hCd
                                      · rw [upI_n e, upI_n e]
                                        exact cdr_f (hKY k k0 (by omega)) hAgK (by omega)
                                    refine T_goto 101 rfl (fun _ => rfl) ?_
                                    refine Tm_lv (a := [(0, .ref 189), (1, .int (i32 (m.1 26))), (2, .int (i32 s325)), (3, .int (i32 s332))]) rfl rfl ⟨rfl, rfl, rfl, rfl, trivial⟩ ?_
                                    exact ih75 s325 s332 (mO m341 [] [(51, upI (m60.2 51) (m.1 26) (((m60.2 51) (m.1 26)) + 1)), (52, upI (m60.2 52) (m.1 26) (((m60.2 52) (m.1 26)) + (m267.1 69)))]) (r32 (by omega) (by omega)) (r32 (by omega) (by omega)) (Ty_mO Tm341 rfl rfl trivial ⟨G355, G357, trivial⟩) (fr_m (fr_s Fm341 (fr_m (fr_s Fm308 (fr_m (fr_s Fm291 (fr_m (fr_s Fm267 (fr_m (fr_s Fm250 (fr_m (fr_s Fm60 (fr_m fr_0 rfl rfl) rfl rfl) rfl rfl) rfl rfl) rfl rfl) rfl rfl) rfl rfl) rfl rfl) rfl rfl) rfl rfl) rfl rfl) rfl rfl) rfl rfl) (show 0 ≤ s325 by omega) (show s325 ≤ 1 by omega) (show 0 ≤ s332 by omega) (show s332 ≤ 1 by omega) (show LxP (m341.1 7) (m341.1 8) (m341.1 9) (m.1 6) (m341.1 10) by first | exact hLx | exact (fun _ => hLx (by omega)) | (intro h9; exfalso; omega)) (show s325 = 0 ∨ s325 = 1 by omega) (show s332 = 0 ∨ s332 = 1 by omega) (show (upI (m60.2 52) (m.1 26) (((m60.2 52) (m.1 26)) + (m267.1 69))) (m.1 26) ≤ 1024 * (upI (m60.2 51) (m.1 26) (((m60.2 51) (m.1 26)) + 1)) (m.1 26) by rw [upI_s, upI_s]; omega) (fun _ => ⟨(show (m.1 8) + 1 ≤ (m341.1 8) by omega), (show CN (m341.2 65) (m341.2 67) (m341.1 28) by rewrite [(show (m341.2 65) = (m267.2 65) from ((fr2 Fm341 65 rfl).trans ((fr2 Fm308 65 rfl).trans (fr2 Fm291 65 rfl)))), (show (m341.2 67) = (m267.2 67) from ((fr2 Fm341 67 rfl).trans ((fr2 Fm308 67 rfl).trans (fr2 Fm291 67 rfl)))), (show (m341.1 28) = (m267.1 28) from ((fr1 Fm341 28 rfl).trans ((fr1 Fm308 28 rfl).trans (fr1 Fm291 28 rfl))))]; exact hCN), (show (m.1 28) ≤ (m341.1 28) by rewrite [(show (m341.1 28) = (m267.1 28) from ((fr1 Fm341 28 rfl).trans ((fr1 Fm308 28 rfl).trans (fr1 Fm291 28 rfl))))]; omega), (show agr (m.2 65) (m341.2 65) (m.1 28) by rewrite [(show (m341.2 65) = (m267.2 65) from ((fr2 Fm341 65 rfl).trans ((fr2 Fm308 65 rfl).trans (fr2 Fm291 65 rfl))))]; exact hAgC), (show ∀ k, 4 * (m.1 26) ≤ k → k < 4 * (m.1 26) + (upI (m60.2 51) (m.1 26) (((m60.2 51) (m.1 26)) + 1)) (m.1 26) → cdr (m341.2 65) (m341.1 28) ((m341.2 110) k) ((m341.2 111) k) by rewrite [(show (m341.2 65) = (m267.2 65) from ((fr2 Fm341 65 rfl).trans ((fr2 Fm308 65 rfl).trans (fr2 Fm291 65 rfl)))), (show (m341.1 28) = (m267.1 28) from ((fr1 Fm341 28 rfl).trans ((fr1 Fm308 28 rfl).trans (fr1 Fm291 28 rfl)))), (show (m341.2 110) = (upI (m60.2 110) ((4 * (m.1 26)) + ((m60.2 51) (m.1 26))) (m60.1 28)) from ((fr2 Fm341 110 rfl).trans ((fr2 Fm308 110 rfl).trans ((fr2 Fm291 110 rfl).trans (fr2 Fm267 110 rfl))))), (show (m341.2 111) = (upI (m60.2 111) ((4 * (m.1 26)) + ((m60.2 51) (m.1 26))) (m267.1 28)) from ((fr2 Fm341 111 rfl).trans ((fr2 Fm308 111 rfl).trans (fr2 Fm291 111 rfl))))]; exact hKY), (show agr (m.2 51) (upI (m60.2 51) (m.1 26) (((m60.2 51) (m.1 26)) + 1)) (m.1 26) by first | exact hK1 | exact agr_t hK1 (agr_u (Int.le_refl _)) (Int.le_refl _)), (show agr (m.2 110) (m341.2 110) (4 * (m.1 26)) by rewrite [(show (m341.2 110) = (upI (m60.2 110) ((4 * (m.1 26)) + ((m60.2 51) (m.1 26))) (m60.1 28)) from ((fr2 Fm341 110 rfl).trans ((fr2 Fm308 110 rfl).trans ((fr2 Fm291 110 rfl).trans (fr2 Fm267 110 rfl)))))]; first | exact hK2 | exact agr_t hK2 (agr_u (by omega)) (Int.le_refl _)), (show agr (m.2 111) (m341.2 111) (4 * (m.1 26)) by rewrite [(show (m341.2 111) = (upI (m60.2 111) ((4 * (m.1 26)) + ((m60.2 51) (m.1 26))) (m267.1 28)) from ((fr2 Fm341 111 rfl).trans ((fr2 Fm308 111 rfl).trans (fr2 Fm291 111 rfl))))]; first | exact hK3 | exact agr_t hK3 (agr_u (by omega)) (Int.le_refl _))⟩) (show 1000000 * (8 - (m341.1 10)) + (4000 - (m341.1 8)) < (n74 : Int) by omega)
                                  · skip
                                    replace h342 : LxP (m341.1 7) (m341.1 8) (m341.1 9) (m308.1 6) (m341.1 10) := h342
                                    rewrite [(show (m308.1 6) = (m.1 6) from ((fr1 Fm308 6 rfl).trans ((fr1 Fm291 6 rfl).trans ((fr1 Fm267 6 rfl).trans ((fr1 Fm250 6 rfl).trans ((fr1 Fm60 6 rfl).trans ((fr1 Fm44 6 rfl).trans ((fr1 Fm18 6 rfl).trans (fr1 Fm4 6 rfl)))))))))] at h342
                                    have hLx := h342
                                    clear h343
                                    replace h344 : (m308.1 8) ≤ (m341.1 8) := h344
                                    clear h345
                                    have hf358 : 1 ≤ (m341.1 10) := by omega
                                    clear q70a q70b q70 q71a q71b q71 ic62 ic63 ic64 ic65 ic67 ic68 g313 g314 g315 g316 g317 h309 h311 u320 u319 h321 h344
                                    refine T_gf 364 (.ref 221) rfl rfl rfl rfl rfl rfl ?_
                                    refine T_ld 365 (.int (i32 (m.1 26))) rfl (fun _ => rfl) ?_
                                    refine T_dup2 366 rfl (fun _ => rfl) ?_
                                    refine T_iald 367 51 (m60.2 51) rfl rfl rfl (by omega) (show (m.1 26) < (8 : Int) by omega) (show (m341.2 51) = (m60.2 51) from ((fr2 Fm341 51 rfl).trans ((fr2 Fm308 51 rfl).trans ((fr2 Fm291 51 rfl).trans ((fr2 Fm267 51 rfl).trans (fr2 Fm250 51 rfl)))))) ?_
                                    have e359 : 0 ≤ (m60.2 51) (m.1 26) ∧ (m60.2 51) (m.1 26) ≤ 4 := (Tm60.2.1 51) (m.1 26)
                                    refine T_ld 368 (.int (i32 1)) rfl (fun _ => rfl) ?_
                                    refine T_iadd 369 rfl rfl ?_
                                    have G360 : ∀ j, 0 ≤ (upI (m60.2 51) (m.1 26) (((m60.2 51) (m.1 26)) + 1)) j ∧ (upI (m60.2 51) (m.1 26) (((m60.2 51) (m.1 26)) + 1)) j ≤ 4 := upI_rg (Tm60.2.1 51) ⟨by omega, by omega⟩
                                    refine T_iast (a' := [(51, upI (m60.2 51) (m.1 26) (((m60.2 51) (m.1 26)) + 1))]) 370 51 (m60.2 51) rfl rfl rfl (by omega) (show (m.1 26) < (8 : Int) by omega) (show (m341.2 51) = (m60.2 51) from ((fr2 Fm341 51 rfl).trans ((fr2 Fm308 51 rfl).trans ((fr2 Fm291 51 rfl).trans ((fr2 Fm267 51 rfl).trans (fr2 Fm250 51 rfl)))))) rfl ?_
                                    refine T_gf 374 (.ref 222) rfl rfl rfl rfl rfl rfl ?_
                                    refine T_ld 375 (.int (i32 (m.1 26))) rfl (fun _ => rfl) ?_
                                    refine T_dup2 376 rfl (fun _ => rfl) ?_
                                    refine T_iald 377 52 (m60.2 52) rfl rfl rfl (by omega) (show (m.1 26) < (8 : Int) by omega) (show (m341.2 52) = (m60.2 52) from ((fr2 Fm341 52 rfl).trans ((fr2 Fm308 52 rfl).trans ((fr2 Fm291 52 rfl).trans ((fr2 Fm267 52 rfl).trans (fr2 Fm250 52 rfl)))))) ?_
                                    have e361 : 0 ≤ (m60.2 52) (m.1 26) ∧ (m60.2 52) (m.1 26) ≤ 4096 := (Tm60.2.1 52) (m.1 26)
                                    refine T_ld 379 (.int (i32 (m267.1 69))) rfl (fun _ => rfl) ?_
                                    refine T_iadd 380 rfl rfl ?_
                                    have G362 : ∀ j, 0 ≤ (upI (m60.2 52) (m.1 26) (((m60.2 52) (m.1 26)) + (m267.1 69))) j ∧ (upI (m60.2 52) (m.1 26) (((m60.2 52) (m.1 26)) + (m267.1 69))) j ≤ 4096 := upI_rg (Tm60.2.1 52) ⟨by omega, by omega⟩
                                    refine T_iast (a' := [(51, upI (m60.2 51) (m.1 26) (((m60.2 51) (m.1 26)) + 1)), (52, upI (m60.2 52) (m.1 26) (((m60.2 52) (m.1 26)) + (m267.1 69)))]) 381 52 (m60.2 52) rfl rfl rfl (by omega) (show (m.1 26) < (8 : Int) by omega) (show (m341.2 52) = (m60.2 52) from ((fr2 Fm341 52 rfl).trans ((fr2 Fm308 52 rfl).trans ((fr2 Fm291 52 rfl).trans ((fr2 Fm267 52 rfl).trans (fr2 Fm250 52 rfl)))))) rfl ?_
                                    refine T_goto 101 rfl (fun _ => rfl) ?_
                                    refine Tm_lv (a := [(0, .ref 189), (1, .int (i32 (m.1 26))), (2, .int (i32 s325)), (3, .int (i32 s332))]) rfl rfl ⟨rfl, rfl, rfl, rfl, trivial⟩ ?_
                                    exact ih75 s325 s332 (mO m341 [] [(51, upI (m60.2 51) (m.1 26) (((m60.2 51) (m.1 26)) + 1)), (52, upI (m60.2 52) (m.1 26) (((m60.2 52) (m.1 26)) + (m267.1 69)))]) (r32 (by omega) (by omega)) (r32 (by omega) (by omega)) (Ty_mO Tm341 rfl rfl trivial ⟨G360, G362, trivial⟩) (fr_m (fr_s Fm341 (fr_m (fr_s Fm308 (fr_m (fr_s Fm291 (fr_m (fr_s Fm267 (fr_m (fr_s Fm250 (fr_m (fr_s Fm60 (fr_m fr_0 rfl rfl) rfl rfl) rfl rfl) rfl rfl) rfl rfl) rfl rfl) rfl rfl) rfl rfl) rfl rfl) rfl rfl) rfl rfl) rfl rfl) rfl rfl) (show 0 ≤ s325 by omega) (show s325 ≤ 1 by omega) (show 0 ≤ s332 by omega) (show s332 ≤ 1 by omega) (show LxP (m341.1 7) (m341.1 8) (m341.1 9) (m.1 6) (m341.1 10) by first | exact hLx | exact (fun _ => hLx (by omega)) | (intro h9; exfalso; omega)) (show s325 = 0 ∨ s325 = 1 by omega) (show s332 = 0 ∨ s332 = 1 by omega) (show (upI (m60.2 52) (m.1 26) (((m60.2 52) (m.1 26)) + (m267.1 69))) (m.1 26) ≤ 1024 * (upI (m60.2 51) (m.1 26) (((m60.2 51) (m.1 26)) + 1)) (m.1 26) by rw [upI_s, upI_s]; omega) (fun (h : (m341.1 10) = 0) => absurd h (by omega)) (show 1000000 * (8 - (m341.1 10)) + (4000 - (m341.1 8)) < (n74 : Int) by omega)
                                refine T_if 348 340 rfl rfl rfl (r32 (by omega) (by omega)) (fun (h363 : v59 ≠ 0) => ?_) (fun (h363 : ¬ (v59 ≠ 0)) => ?_)
                                · skip
                                  refine T_ld 349 (.int (i32 1)) rfl (fun _ => rfl) ?_
                                  refine T_goto 353 rfl (fun _ => rfl) ?_
                                  refine Tm_lv (a := [(0, .ref 189), (1, .int (i32 (m.1 26))), (2, .int (i32 s325)), (3, .int (i32 v59)), (4, .int (i32 ((4 * (m.1 26)) + ((m60.2 51) (m.1 26))))), (5, .int (i32 (m267.1 69))), (6, .int (i32 (m291.1 8))), (7, .int (i32 (m291.1 7)))]) rfl rfl ⟨rfl, rfl, rfl, rfl, rfl, rfl, rfl, rfl, trivial⟩ ?_
                                  exact J353_333 1 ⟨by decide, by decide⟩ (show 0 ≤ (1 : Int) by omega) (show (1 : Int) ≤ 1 by omega)
                                · skip
                                  refine T_ld 342 (.int (i32 (m291.1 7))) rfl (fun _ => rfl) ?_
                                  refine T_ld 345 (.int (i32 314)) rfl (fun _ => rfl) ?_
                                  refine T_icmp 352 348 rfl rfl rfl (r32 (by omega) (by omega)) ⟨by decide, by decide⟩ (fun (h364 : (m291.1 7) ≠ 314) => ?_) (fun (h364 : ¬ ((m291.1 7) ≠ 314)) => by exfalso; omega)
                                  refine T_ld 353 (.int (i32 0)) rfl (fun _ => rfl) ?_
                                  refine Tm_lv (a := [(0, .ref 189), (1, .int (i32 (m.1 26))), (2, .int (i32 s325)), (3, .int (i32 v59)), (4, .int (i32 ((4 * (m.1 26)) + ((m60.2 51) (m.1 26))))), (5, .int (i32 (m267.1 69))), (6, .int (i32 (m291.1 8))), (7, .int (i32 (m291.1 7)))]) rfl rfl ⟨rfl, rfl, rfl, rfl, rfl, rfl, rfl, rfl, trivial⟩ ?_
                                  exact J353_333 0 ⟨by decide, by decide⟩ (show 0 ≤ (0 : Int) by omega) (show (0 : Int) ≤ 1 by omega)
                              refine T_if 330 322 rfl rfl rfl (r32 (by omega) (by omega)) (fun (h365 : v58 ≠ 0) => ?_) (fun (h365 : ¬ (v58 ≠ 0)) => ?_)
                              · skip
                                refine T_ld 331 (.int (i32 1)) rfl (fun _ => rfl) ?_
                                refine T_goto 335 rfl (fun _ => rfl) ?_
                                refine Tm_lv (a := [(0, .ref 189), (1, .int (i32 (m.1 26))), (2, .int (i32 v58)), (3, .int (i32 v59)), (4, .int (i32 ((4 * (m.1 26)) + ((m60.2 51) (m.1 26))))), (5, .int (i32 (m267.1 69))), (6, .int (i32 (m291.1 8))), (7, .int (i32 (m291.1 7)))]) rfl rfl ⟨rfl, rfl, rfl, rfl, rfl, rfl, rfl, rfl, trivial⟩ ?_
                                exact J335_326 1 ⟨by decide, by decide⟩ (show 0 ≤ (1 : Int) by omega) (show (1 : Int) ≤ 1 by omega)
                              · skip
                                refine T_ld 324 (.int (i32 (m291.1 7))) rfl (fun _ => rfl) ?_
                                refine T_ld 327 (.int (i32 313)) rfl (fun _ => rfl) ?_
                                refine T_icmp 334 330 rfl rfl rfl (r32 (by omega) (by omega)) ⟨by decide, by decide⟩ (fun (h366 : (m291.1 7) ≠ 313) => ?_) (fun (h366 : ¬ ((m291.1 7) ≠ 313)) => by exfalso; omega)
                                refine T_ld 335 (.int (i32 0)) rfl (fun _ => rfl) ?_
                                refine Tm_lv (a := [(0, .ref 189), (1, .int (i32 (m.1 26))), (2, .int (i32 v58)), (3, .int (i32 v59)), (4, .int (i32 ((4 * (m.1 26)) + ((m60.2 51) (m.1 26))))), (5, .int (i32 (m267.1 69))), (6, .int (i32 (m291.1 8))), (7, .int (i32 (m291.1 7)))]) rfl rfl ⟨rfl, rfl, rfl, rfl, rfl, rfl, rfl, rfl, trivial⟩ ?_
                                exact J335_326 0 ⟨by decide, by decide⟩ (show 0 ≤ (0 : Int) by omega) (show (0 : Int) ≤ 1 by omega)
                            · skip
                              replace h309 : LxP (m308.1 7) (m308.1 8) (m308.1 9) (m291.1 6) (m308.1 10) := h309
                              rewrite [(show (m291.1 6) = (m.1 6) from ((fr1 Fm291 6 rfl).trans ((fr1 Fm267 6 rfl).trans ((fr1 Fm250 6 rfl).trans ((fr1 Fm60 6 rfl).trans ((fr1 Fm44 6 rfl).trans ((fr1 Fm18 6 rfl).trans (fr1 Fm4 6 rfl))))))))] at h309
                              have hLx := h309
                              clear h310
                              replace h311 : (m291.1 8) ≤ (m308.1 8) := h311
                              clear h312
                              have hf367 : 1 ≤ (m308.1 10) := by omega
                              clear g298 g299 g300 h292 h304
                              refine T_gf 270 (.int (i32 (m308.1 10))) rfl rfl rfl rfl rfl rfl ?_
                              refine T_if 309 273 rfl rfl rfl (r32 (by omega) (by omega)) (fun (h368 : (m308.1 10) ≠ 0) => ?_) (fun (h368 : ¬ ((m308.1 10) ≠ 0)) => by exfalso; omega)
                              refine T_gf 313 (.ref 273) rfl rfl rfl rfl rfl rfl ?_
                              refine T_ld 315 (.int (i32 ((4 * (m.1 26)) + ((m60.2 51) (m.1 26))))) rfl (fun _ => rfl) ?_
                              refine T_ld 317 (.int (i32 (m291.1 7))) rfl (fun _ => rfl) ?_
                              have G369 : ∀ j, 0 ≤ (upI (m60.2 113) ((4 * (m.1 26)) + ((m60.2 51) (m.1 26))) (m291.1 7)) j ∧ (upI (m60.2 113) ((4 * (m.1 26)) + ((m60.2 51) (m.1 26))) (m291.1 7)) j ≤ 330 := upI_rg (Tm60.2.1 113) ⟨by omega, by omega⟩
                              refine T_iast (a' := [(113, upI (m60.2 113) ((4 * (m.1 26)) + ((m60.2 51) (m.1 26))) (m291.1 7))]) 318 113 (m60.2 113) rfl rfl rfl (by omega) (show ((4 * (m.1 26)) + ((m60.2 51) (m.1 26))) < (32 : Int) by omega) (show (m308.2 113) = (m60.2 113) from ((fr2 Fm308 113 rfl).trans ((fr2 Fm291 113 rfl).trans ((fr2 Fm267 113 rfl).trans (fr2 Fm250 113 rfl))))) rfl ?_
                              refine T_ld 319 (.int (i32 v58)) rfl (fun _ => rfl) ?_
                              have J335_371 : ∀ (s370 : Int), (R32 s370) → (0 ≤ s370) → (s370 ≤ 1) → TT w D pm_275 (335, [(0, .ref 189), (1, .int (i32 (m.1 26))), (2, .int (i32 v58)), (3, .int (i32 v59)), (4, .int (i32 ((4 * (m.1 26)) + ((m60.2 51) (m.1 26))))), (5, .int (i32 (m267.1 69))), (6, .int (i32 (m291.1 8))), (7, .int (i32 (m291.1 7)))], [.int (i32 s370)], (mhp (mO m308 [] [(113, upI (m60.2 113) ((4 * (m.1 26)) + ((m60.2 51) (m.1 26))) (m291.1 7))]) c, N), 0, 0) (Q_takeTable m c N) := by
                                intro s370 q374 ic372 ic373
                                obtain ⟨q374a, q374b⟩ := id q374
                                refine T_sto 336 [(2, .int (i32 s370)), (0, .ref 189), (1, .int (i32 (m.1 26))), (3, .int (i32 v59)), (4, .int (i32 ((4 * (m.1 26)) + ((m60.2 51) (m.1 26))))), (5, .int (i32 (m267.1 69))), (6, .int (i32 (m291.1 8))), (7, .int (i32 (m291.1 7)))] rfl (fun _ => rfl) ?_
                                refine T_ld 337 (.int (i32 v59)) rfl (fun _ => rfl) ?_
                                have J353_378 : ∀ (s377 : Int), (R32 s377) → (0 ≤ s377) → (s377 ≤ 1) → TT w D pm_275 (353, [(0, .ref 189), (1, .int (i32 (m.1 26))), (2, .int (i32 s370)), (3, .int (i32 v59)), (4, .int (i32 ((4 * (m.1 26)) + ((m60.2 51) (m.1 26))))), (5, .int (i32 (m267.1 69))), (6, .int (i32 (m291.1 8))), (7, .int (i32 (m291.1 7)))], [.int (i32 s377)], (mhp (mO m308 [] [(113, upI (m60.2 113) ((4 * (m.1 26)) + ((m60.2 51) (m.1 26))) (m291.1 7))]) c, N), 0, 0) (Q_takeTable m c N) := by
                                  intro s377 q381 ic379 ic380
                                  obtain ⟨q381a, q381b⟩ := id q381
                                  refine T_sto 354 [(3, .int (i32 s377)), (0, .ref 189), (1, .int (i32 (m.1 26))), (2, .int (i32 s370)), (4, .int (i32 ((4 * (m.1 26)) + ((m60.2 51) (m.1 26))))), (5, .int (i32 (m267.1 69))), (6, .int (i32 (m291.1 8))), (7, .int (i32 (m291.1 7)))] rfl (fun _ => rfl) ?_
                                  refine T_ld 355 (.ref 189) rfl (fun _ => rfl) ?_
                                  refine T_ld 357 (.int (i32 59)) rfl (fun _ => rfl) ?_
                                  refine T_call 360 232 [.ref 189, .int (i32 59)] [] rfl (fun _ => rfl) rfl (d_need w (mO m308 [] [(113, upI (m60.2 113) ((4 * (m.1 26)) + ((m60.2 51) (m.1 26))) (m291.1 7))]) c N D (by omega) (Ty_mO Tm308 rfl rfl trivial ⟨G369, trivial⟩) 59 ⟨by decide, by decide⟩ (show 1 ≤ (59 : Int) by omega) (show LxP (m308.1 7) (m308.1 8) (m308.1 9) (m308.1 6) (m308.1 10) by rewrite [(show (m308.1 6) = (m.1 6) from ((fr1 Fm308 6 rfl).trans ((fr1 Fm291 6 rfl).trans ((fr1 Fm267 6 rfl).trans ((fr1 Fm250 6 rfl).trans ((fr1 Fm60 6 rfl).trans ((fr1 Fm44 6 rfl).trans ((fr1 Fm18 6 rfl).trans (fr1 Fm4 6 rfl)))))))))]; first | exact hLx | (intro h9; exfalso; omega) | (intro h9; have h8 := hLx (by omega); omega))) (fun rr384 k385 => ?_)
                                  obtain ⟨m386, Tm386, Fm386, h387, h388, h389, h390, rfl⟩ := k385
                                  refine ⟨_, _, rfl, ?_⟩
                                  refine T_nb (st' := []) rfl ?_
                                  have g391 : 0 ≤ m386.1 7 ∧ m386.1 7 ≤ 330 := Tm386.1 7
                                  have g392 : 0 ≤ m386.1 8 ∧ m386.1 8 ≤ 4000 := Tm386.1 8
                                  have g393 : 0 ≤ m386.1 9 ∧ m386.1 9 ≤ 4000 := Tm386.1 9
                                  have g394 : 0 ≤ m386.1 10 ∧ m386.1 10 ≤ 8 := Tm386.1 10
                                  have g395 : (-1) ≤ m386.1 11 ∧ m386.1 11 ≤ 4000 := Tm386.1 11
                                  replace h387 : LxP (m386.1 7) (m386.1 8) (m386.1 9) (m308.1 6) (m386.1 10) := h387
                                  rewrite [(show (m308.1 6) = (m.1 6) from ((fr1 Fm308 6 rfl).trans ((fr1 Fm291 6 rfl).trans ((fr1 Fm267 6 rfl).trans ((fr1 Fm250 6 rfl).trans ((fr1 Fm60 6 rfl).trans ((fr1 Fm44 6 rfl).trans ((fr1 Fm18 6 rfl).trans (fr1 Fm4 6 rfl)))))))))] at h387
                                  replace h388 : (m386.1 10) = 0 → (m308.1 10) = 0 ∧ (m308.1 7) = (59 : Int) := h388
                                  replace h389 : (m308.1 8) ≤ (m386.1 8) := h389
                                  replace h390 : (m386.1 10) = 0 → (m308.1 8) + (m308.1 9) ≤ (m386.1 8) := h390
                                  have hf396 : 1 ≤ (m386.1 10) := by omega
                                  clear h388
                                  clear h390
                                  have hLx := h387
                                  clear q70a q70b q70 q71a q71b q71 ic62 ic63 ic64 ic65 ic67 ic68 g313 g314 g315 g316 g317 h309 h311 hf367 h368 h389
                                  refine T_gf 364 (.ref 221) rfl rfl rfl rfl rfl rfl ?_
                                  refine T_ld 365 (.int (i32 (m.1 26))) rfl (fun _ => rfl) ?_
                                  refine T_dup2 366 rfl (fun _ => rfl) ?_
                                  refine T_iald 367 51 (m60.2 51) rfl rfl rfl (by omega) (show (m.1 26) < (8 : Int) by omega) (show (m386.2 51) = (m60.2 51) from ((fr2 Fm386 51 rfl).trans ((fr2 Fm308 51 rfl).trans ((fr2 Fm291 51 rfl).trans ((fr2 Fm267 51 rfl).trans (fr2 Fm250 51 rfl)))))) ?_
                                  have e397 : 0 ≤ (m60.2 51) (m.1 26) ∧ (m60.2 51) (m.1 26) ≤ 4 := (Tm60.2.1 51) (m.1 26)
                                  refine T_ld 368 (.int (i32 1)) rfl (fun _ => rfl) ?_
                                  refine T_iadd 369 rfl rfl ?_
                                  have G398 : ∀ j, 0 ≤ (upI (m60.2 51) (m.1 26) (((m60.2 51) (m.1 26)) + 1)) j ∧ (upI (m60.2 51) (m.1 26) (((m60.2 51) (m.1 26)) + 1)) j ≤ 4 := upI_rg (Tm60.2.1 51) ⟨by omega, by omega⟩
                                  refine T_iast (a' := [(51, upI (m60.2 51) (m.1 26) (((m60.2 51) (m.1 26)) + 1))]) 370 51 (m60.2 51) rfl rfl rfl (by omega) (show (m.1 26) < (8 : Int) by omega) (show (m386.2 51) = (m60.2 51) from ((fr2 Fm386 51 rfl).trans ((fr2 Fm308 51 rfl).trans ((fr2 Fm291 51 rfl).trans ((fr2 Fm267 51 rfl).trans (fr2 Fm250 51 rfl)))))) rfl ?_
                                  refine T_gf 374 (.ref 222) rfl rfl rfl rfl rfl rfl ?_
                                  refine T_ld 375 (.int (i32 (m.1 26))) rfl (fun _ => rfl) ?_
                                  refine T_dup2 376 rfl (fun _ => rfl) ?_
                                  refine T_iald 377 52 (m60.2 52) rfl rfl rfl (by omega) (show (m.1 26) < (8 : Int) by omega) (show (m386.2 52) = (m60.2 52) from ((fr2 Fm386 52 rfl).trans ((fr2 Fm308 52 rfl).trans ((fr2 Fm291 52 rfl).trans ((fr2 Fm267 52 rfl).trans (fr2 Fm250 52 rfl)))))) ?_
                                  have e399 : 0 ≤ (m60.2 52) (m.1 26) ∧ (m60.2 52) (m.1 26) ≤ 4096 := (Tm60.2.1 52) (m.1 26)
                                  refine T_ld 379 (.int (i32 (m267.1 69))) rfl (fun _ => rfl) ?_
                                  refine T_iadd 380 rfl rfl ?_
                                  have G400 : ∀ j, 0 ≤ (upI (m60.2 52) (m.1 26) (((m60.2 52) (m.1 26)) + (m267.1 69))) j ∧ (upI (m60.2 52) (m.1 26) (((m60.2 52) (m.1 26)) + (m267.1 69))) j ≤ 4096 := upI_rg (Tm60.2.1 52) ⟨by omega, by omega⟩
                                  refine T_iast (a' := [(51, upI (m60.2 51) (m.1 26) (((m60.2 51) (m.1 26)) + 1)), (52, upI (m60.2 52) (m.1 26) (((m60.2 52) (m.1 26)) + (m267.1 69)))]) 381 52 (m60.2 52) rfl rfl rfl (by omega) (show (m.1 26) < (8 : Int) by omega) (show (m386.2 52) = (m60.2 52) from ((fr2 Fm386 52 rfl).trans ((fr2 Fm308 52 rfl).trans ((fr2 Fm291 52 rfl).trans ((fr2 Fm267 52 rfl).trans (fr2 Fm250 52 rfl)))))) rfl ?_
                                  refine T_goto 101 rfl (fun _ => rfl) ?_
                                  refine Tm_lv (a := [(0, .ref 189), (1, .int (i32 (m.1 26))), (2, .int (i32 s370)), (3, .int (i32 s377))]) rfl rfl ⟨rfl, rfl, rfl, rfl, trivial⟩ ?_
                                  exact ih75 s370 s377 (mO m386 [] [(51, upI (m60.2 51) (m.1 26) (((m60.2 51) (m.1 26)) + 1)), (52, upI (m60.2 52) (m.1 26) (((m60.2 52) (m.1 26)) + (m267.1 69)))]) (r32 (by omega) (by omega)) (r32 (by omega) (by omega)) (Ty_mO Tm386 rfl rfl trivial ⟨G398, G400, trivial⟩) (fr_m (fr_s Fm386 (fr_m (fr_s Fm308 (fr_m (fr_s Fm291 (fr_m (fr_s Fm267 (fr_m (fr_s Fm250 (fr_m (fr_s Fm60 (fr_m fr_0 rfl rfl) rfl rfl) rfl rfl) rfl rfl) rfl rfl) rfl rfl) rfl rfl) rfl rfl) rfl rfl) rfl rfl) rfl rfl) rfl rfl) rfl rfl) (show 0 ≤ s370 by omega) (show s370 ≤ 1 by omega) (show 0 ≤ s377 by omega) (show s377 ≤ 1 by omega) (show LxP (m386.1 7) (m386.1 8) (m386.1 9) (m.1 6) (m386.1 10) by first | exact hLx | exact (fun _ => hLx (by omega)) | (intro h9; exfalso; omega)) (show s370 = 0 ∨ s370 = 1 by omega) (show s377 = 0 ∨ s377 = 1 by omega) (show (upI (m60.2 52) (m.1 26) (((m60.2 52) (m.1 26)) + (m267.1 69))) (m.1 26) ≤ 1024 * (upI (m60.2 51) (m.1 26) (((m60.2 51) (m.1 26)) + 1)) (m.1 26) by rw [upI_s, upI_s]; omega) (fun (h : (m386.1 10) = 0) => absurd h (by omega)) (show 1000000 * (8 - (m386.1 10)) + (4000 - (m386.1 8)) < (n74 : Int) by omega)
                                refine T_if 348 340 rfl rfl rfl (r32 (by omega) (by omega)) (fun (h401 : v59 ≠ 0) => ?_) (fun (h401 : ¬ (v59 ≠ 0)) => ?_)
                                · skip
                                  refine T_ld 349 (.int (i32 1)) rfl (fun _ => rfl) ?_
                                  refine T_goto 353 rfl (fun _ => rfl) ?_
                                  refine Tm_lv (a := [(0, .ref 189), (1, .int (i32 (m.1 26))), (2, .int (i32 s370)), (3, .int (i32 v59)), (4, .int (i32 ((4 * (m.1 26)) + ((m60.2 51) (m.1 26))))), (5, .int (i32 (m267.1 69))), (6, .int (i32 (m291.1 8))), (7, .int (i32 (m291.1 7)))]) rfl rfl ⟨rfl, rfl, rfl, rfl, rfl, rfl, rfl, rfl, trivial⟩ ?_
                                  exact J353_378 1 ⟨by decide, by decide⟩ (show 0 ≤ (1 : Int) by omega) (show (1 : Int) ≤ 1 by omega)
                                · skip
                                  refine T_ld 342 (.int (i32 (m291.1 7))) rfl (fun _ => rfl) ?_
                                  refine T_ld 345 (.int (i32 314)) rfl (fun _ => rfl) ?_
                                  refine T_icmp 352 348 rfl rfl rfl (r32 (by omega) (by omega)) ⟨by decide, by decide⟩ (fun (h402 : (m291.1 7) ≠ 314) => ?_) (fun (h402 : ¬ ((m291.1 7) ≠ 314)) => by exfalso; omega)
                                  refine T_ld 353 (.int (i32 0)) rfl (fun _ => rfl) ?_
                                  refine Tm_lv (a := [(0, .ref 189), (1, .int (i32 (m.1 26))), (2, .int (i32 s370)), (3, .int (i32 v59)), (4, .int (i32 ((4 * (m.1 26)) + ((m60.2 51) (m.1 26))))), (5, .int (i32 (m267.1 69))), (6, .int (i32 (m291.1 8))), (7, .int (i32 (m291.1 7)))]) rfl rfl ⟨rfl, rfl, rfl, rfl, rfl, rfl, rfl, rfl, trivial⟩ ?_
                                  exact J353_378 0 ⟨by decide, by decide⟩ (show 0 ≤ (0 : Int) by omega) (show (0 : Int) ≤ 1 by omega)
                              refine T_if 330 322 rfl rfl rfl (r32 (by omega) (by omega)) (fun (h403 : v58 ≠ 0) => ?_) (fun (h403 : ¬ (v58 ≠ 0)) => ?_)
                              · skip
                                refine T_ld 331 (.int (i32 1)) rfl (fun _ => rfl) ?_
                                refine T_goto 335 rfl (fun _ => rfl) ?_
                                refine Tm_lv (a := [(0, .ref 189), (1, .int (i32 (m.1 26))), (2, .int (i32 v58)), (3, .int (i32 v59)), (4, .int (i32 ((4 * (m.1 26)) + ((m60.2 51) (m.1 26))))), (5, .int (i32 (m267.1 69))), (6, .int (i32 (m291.1 8))), (7, .int (i32 (m291.1 7)))]) rfl rfl ⟨rfl, rfl, rfl, rfl, rfl, rfl, rfl, rfl, trivial⟩ ?_
                                exact J335_371 1 ⟨by decide, by decide⟩ (show 0 ≤ (1 : Int) by omega) (show (1 : Int) ≤ 1 by omega)
                              · skip
                                refine T_ld 324 (.int (i32 (m291.1 7))) rfl (fun _ => rfl) ?_
                                refine T_ld 327 (.int (i32 313)) rfl (fun _ => rfl) ?_
                                refine T_icmp 334 330 rfl rfl rfl (r32 (by omega) (by omega)) ⟨by decide, by decide⟩ (fun (h404 : (m291.1 7) ≠ 313) => ?_) (fun (h404 : ¬ ((m291.1 7) ≠ 313)) => by exfalso; omega)
                                refine T_ld 335 (.int (i32 0)) rfl (fun _ => rfl) ?_
                                refine Tm_lv (a := [(0, .ref 189), (1, .int (i32 (m.1 26))), (2, .int (i32 v58)), (3, .int (i32 v59)), (4, .int (i32 ((4 * (m.1 26)) + ((m60.2 51) (m.1 26))))), (5, .int (i32 (m267.1 69))), (6, .int (i32 (m291.1 8))), (7, .int (i32 (m291.1 7)))]) rfl rfl ⟨rfl, rfl, rfl, rfl, rfl, rfl, rfl, rfl, trivial⟩ ?_
                                exact J335_371 0 ⟨by decide, by decide⟩ (show 0 ≤ (0 : Int) by omega) (show (0 : Int) ≤ 1 by omega)
                          · skip
                            refine T_ld 244 (.int (i32 (m291.1 7))) rfl (fun _ => rfl) ?_
                            refine T_ld 247 (.int (i32 313)) rfl (fun _ => rfl) ?_
                            refine T_icmp 262 250 rfl rfl rfl (r32 (by omega) (by omega)) ⟨by decide, by decide⟩ (fun (h405 : (m291.1 7) = 313) => ?_) (fun (h405 : ¬ ((m291.1 7) = 313)) => ?_)
                            · skip
                              refine T_ld 263 (.ref 189) rfl (fun _ => rfl) ?_
                              refine T_call 266 212 [.ref 189] [] rfl (fun _ => rfl) rfl (d_next w (mO m291 [] []) c N D (by omega) Tm291 (show (m291.1 10) = 0 → (m291.1 8) + (m291.1 9) ≤ (m291.1 6) by rewrite [(show (m291.1 6) = (m.1 6) from ((fr1 Fm291 6 rfl).trans ((fr1 Fm267 6 rfl).trans ((fr1 Fm250 6 rfl).trans ((fr1 Fm60 6 rfl).trans ((fr1 Fm44 6 rfl).trans ((fr1 Fm18 6 rfl).trans (fr1 Fm4 6 rfl))))))))]; first | omega | (intro h9; have h8 := hLx h9; omega))) (fun rr406 k407 => ?_)
                              obtain ⟨m408, Tm408, Fm408, h409, h410, h411, h412, rfl⟩ := k407
                              refine ⟨_, _, rfl, ?_⟩
                              refine T_nb (st' := []) rfl ?_
                              have g413 : 0 ≤ m408.1 7 ∧ m408.1 7 ≤ 330 := Tm408.1 7
                              have g414 : 0 ≤ m408.1 8 ∧ m408.1 8 ≤ 4000 := Tm408.1 8
                              have g415 : 0 ≤ m408.1 9 ∧ m408.1 9 ≤ 4000 := Tm408.1 9
                              have g416 : 0 ≤ m408.1 10 ∧ m408.1 10 ≤ 8 := Tm408.1 10
                              have g417 : (-1) ≤ m408.1 11 ∧ m408.1 11 ≤ 4000 := Tm408.1 11
                              by_cases hf418 : (m408.1 10) = 0
                              · skip
                                replace h409 : LxP (m408.1 7) (m408.1 8) (m408.1 9) (m291.1 6) (m408.1 10) := h409
                                rewrite [(show (m291.1 6) = (m.1 6) from ((fr1 Fm291 6 rfl).trans ((fr1 Fm267 6 rfl).trans ((fr1 Fm250 6 rfl).trans ((fr1 Fm60 6 rfl).trans ((fr1 Fm44 6 rfl).trans ((fr1 Fm18 6 rfl).trans (fr1 Fm4 6 rfl))))))))] at h409
                                have hLx := h409
                                replace h410 : (m291.1 10) = 0 := h410 hf418
                                replace h411 : (m291.1 8) ≤ (m408.1 8) := h411
                                replace h412 : (m291.1 8) + (m291.1 9) ≤ (m408.1 8) := h412 hf418
                                have u419 : (m60.1 8) + 1 ≤ (m408.1 8) := by omega
                                have u420 : (m.1 8) + 1 ≤ (m408.1 8) := by omega
                                have hAgC : agr (m.2 65) (m267.2 65) (m.1 28) := by first | exact agr_r _ _ | exact hAgC | exact agr_t hAgC hAg (by omega)
                                clear g298 g299 g300 h292 h304 h410 h412
                                refine T_gf 270 (.int (i32 (m408.1 10))) rfl rfl rfl rfl rfl rfl ?_
                                refine T_if 309 273 rfl rfl rfl (r32 (by omega) (by omega)) (fun (h421 : (m408.1 10) ≠ 0) => by exfalso; omega) (fun (h421 : ¬ ((m408.1 10) ≠ 0)) => ?_)
                                refine T_ld 275 (.int (i32 (m291.1 7))) rfl (fun _ => rfl) ?_
                                refine T_ld 278 (.int (i32 313)) rfl (fun _ => rfl) ?_
                                refine T_icmp 289 281 rfl rfl rfl (r32 (by omega) (by omega)) ⟨by decide, by decide⟩ (fun (h422 : (m291.1 7) ≠ 313) => by exfalso; omega) (fun (h422 : ¬ ((m291.1 7) ≠ 313)) => ?_)
                                refine T_ld 282 (.int (i32 v58)) rfl (fun _ => rfl) ?_
                                refine T_if 301 285 rfl rfl rfl (r32 (by omega) (by omega)) (fun (h423 : v58 ≠ 0) => ?_) (fun (h423 : ¬ (v58 ≠ 0)) => ?_)
                                · skip
                                  refine T_ld 302 (.ref 189) rfl (fun _ => rfl) ?_
                                  refine T_ld 304 (.int (i32 8)) rfl (fun _ => rfl) ?_
                                  refine T_ld 306 (.int (i32 (m291.1 8))) rfl (fun _ => rfl) ?_
                                  refine T_call 309 222 [.ref 189, .int (i32 8), .int (i32 (m291.1 8))] [] rfl (fun _ => rfl) rfl (d_wrong w (mO m408 [] []) c N D (by omega) Tm408 8 (m291.1 8) ⟨by decide, by decide⟩ (r32 (by omega) (by omega)) (show 1 ≤ (8 : Int) ∧ (8 : Int) ≤ 8 by omega) (show 0 ≤ (m291.1 8) ∧ (m291.1 8) ≤ 4000 by omega)) (fun rr424 k425 => ?_)
                                  obtain ⟨m426, Tm426, Fm426, h427, rfl⟩ := k425
                                  refine ⟨_, _, rfl, ?_⟩
                                  refine T_nb (st' := []) rfl ?_
                                  have g428 : 0 ≤ m426.1 10 ∧ m426.1 10 ≤ 8 := Tm426.1 10
                                  have g429 : (-1) ≤ m426.1 11 ∧ m426.1 11 ≤ 4000 := Tm426.1 11
                                  replace h427 : (0 < (m408.1 10) → (m426.1 10) = (m408.1 10) ∧ (m426.1 11) = (m408.1 11)) ∧ ((m408.1 10) ≤ 0 → (m426.1 10) = (8 : Int) ∧ (m426.1 11) = (m291.1 8)) := h427
                                  have hf430 : 1 ≤ (m426.1 10) := by omega
                                  clear g416 g417 h409 h421 h427
                                  refine T_gf 313 (.ref 273) rfl rfl rfl rfl rfl rfl ?_
                                  refine T_ld 315 (.int (i32 ((4 * (m.1 26)) + ((m60.2 51) (m.1 26))))) rfl (fun _ => rfl) ?_
                                  refine T_ld 317 (.int (i32 (m291.1 7))) rfl (fun _ => rfl) ?_
                                  have G431 : ∀ j, 0 ≤ (upI (m60.2 113) ((4 * (m.1 26)) + ((m60.2 51) (m.1 26))) (m291.1 7)) j ∧ (upI (m60.2 113) ((4 * (m.1 26)) + ((m60.2 51) (m.1 26))) (m291.1 7)) j ≤ 330 := upI_rg (Tm60.2.1 113) ⟨by omega, by omega⟩
                                  refine T_iast (a' := [(113, upI (m60.2 113) ((4 * (m.1 26)) + ((m60.2 51) (m.1 26))) (m291.1 7))]) 318 113 (m60.2 113) rfl rfl rfl (by omega) (show ((4 * (m.1 26)) + ((m60.2 51) (m.1 26))) < (32 : Int) by omega) (show (m426.2 113) = (m60.2 113) from ((fr2 Fm426 113 rfl).trans ((fr2 Fm408 113 rfl).trans ((fr2 Fm291 113 rfl).trans ((fr2 Fm267 113 rfl).trans (fr2 Fm250 113 rfl)))))) rfl ?_
                                  refine T_ld 319 (.int (i32 v58)) rfl (fun _ => rfl) ?_
                                  refine T_if 330 322 rfl rfl rfl (r32 (by omega) (by omega)) (fun (h432 : v58 ≠ 0) => ?_) (fun (h432 : ¬ (v58 ≠ 0)) => by exfalso; omega)
                                  refine T_ld 331 (.int (i32 1)) rfl (fun _ => rfl) ?_
                                  refine T_goto 335 rfl (fun _ => rfl) ?_
                                  refine T_sto 336 [(2, .int (i32 1)), (7, .int (i32 (m291.1 7))), (6, .int (i32 (m291.1 8))), (5, .int (i32 (m267.1 69))), (4, .int (i32 ((4 * (m.1 26)) + ((m60.2 51) (m.1 26))))), (0, .ref 189), (1, .int (i32 (m.1 26))), (3, .int (i32 v59))] rfl (fun _ => rfl) ?_
                                  refine T_ld 337 (.int (i32 v59)) rfl (fun _ => rfl) ?_
                                  have J353_434 : ∀ (s433 : Int), (R32 s433) → (0 ≤ s433) → (s433 ≤ 1) → TT w D pm_275 (353, [(0, .ref 189), (1, .int (i32 (m.1 26))), (2, .int (i32 1)), (3, .int (i32 v59)), (4, .int (i32 ((4 * (m.1 26)) + ((m60.2 51) (m.1 26))))), (5, .int (i32 (m267.1 69))), (6, .int (i32 (m291.1 8))), (7, .int (i32 (m291.1 7)))], [.int (i32 s433)], (mhp (mO m426 [] [(113, upI (m60.2 113) ((4 * (m.1 26)) + ((m60.2 51) (m.1 26))) (m291.1 7))]) c, N), 0, 0) (Q_takeTable m c N) := by
                                    intro s433 q437 ic435 ic436
                                    obtain ⟨q437a, q437b⟩ := id q437
                                    refine T_sto 354 [(3, .int (i32 s433)), (0, .ref 189), (1, .int (i32 (m.1 26))), (2, .int (i32 1)), (4, .int (i32 ((4 * (m.1 26)) + ((m60.2 51) (m.1 26))))), (5, .int (i32 (m267.1 69))), (6, .int (i32 (m291.1 8))), (7, .int (i32 (m291.1 7)))] rfl (fun _ => rfl) ?_
                                    refine T_ld 355 (.ref 189) rfl (fun _ => rfl) ?_
                                    refine T_ld 357 (.int (i32 59)) rfl (fun _ => rfl) ?_
                                    refine T_call 360 232 [.ref 189, .int (i32 59)] [] rfl (fun _ => rfl) rfl (d_need w (mO m426 [] [(113, upI (m60.2 113) ((4 * (m.1 26)) + ((m60.2 51) (m.1 26))) (m291.1 7))]) c N D (by omega) (Ty_mO Tm426 rfl rfl trivial ⟨G431, trivial⟩) 59 ⟨by decide, by decide⟩ (show 1 ≤ (59 : Int) by omega) (show LxP (m426.1 7) (m426.1 8) (m426.1 9) (m426.1 6) (m426.1 10) by rewrite [(show (m426.1 7) = (m408.1 7) from (fr1 Fm426 7 rfl)), (show (m426.1 8) = (m408.1 8) from (fr1 Fm426 8 rfl)), (show (m426.1 9) = (m408.1 9) from (fr1 Fm426 9 rfl)), (show (m426.1 6) = (m.1 6) from ((fr1 Fm426 6 rfl).trans ((fr1 Fm408 6 rfl).trans ((fr1 Fm291 6 rfl).trans ((fr1 Fm267 6 rfl).trans ((fr1 Fm250 6 rfl).trans ((fr1 Fm60 6 rfl).trans ((fr1 Fm44 6 rfl).trans ((fr1 Fm18 6 rfl).trans (fr1 Fm4 6 rfl))))))))))]; first | exact hLx | (intro h9; exfalso; omega) | (intro h9; have h8 := hLx (by omega); omega))) (fun rr440 k441 => ?_)
                                    obtain ⟨m442, Tm442, Fm442, h443, h444, h445, h446, rfl⟩ := k441
                                    refine ⟨_, _, rfl, ?_⟩
                                    refine T_nb (st' := []) rfl ?_
                                    have g447 : 0 ≤ m442.1 7 ∧ m442.1 7 ≤ 330 := Tm442.1 7
                                    have g448 : 0 ≤ m442.1 8 ∧ m442.1 8 ≤ 4000 := Tm442.1 8
                                    have g449 : 0 ≤ m442.1 9 ∧ m442.1 9 ≤ 4000 := Tm442.1 9
                                    have g450 : 0 ≤ m442.1 10 ∧ m442.1 10 ≤ 8 := Tm442.1 10
                                    have g451 : (-1) ≤ m442.1 11 ∧ m442.1 11 ≤ 4000 := Tm442.1 11
                                    replace h443 : LxP (m442.1 7) (m442.1 8) (m442.1 9) (m426.1 6) (m442.1 10) := h443
                                    rewrite [(show (m426.1 6) = (m.1 6) from ((fr1 Fm426 6 rfl).trans ((fr1 Fm408 6 rfl).trans ((fr1 Fm291 6 rfl).trans ((fr1 Fm267 6 rfl).trans ((fr1 Fm250 6 rfl).trans ((fr1 Fm60 6 rfl).trans ((fr1 Fm44 6 rfl).trans ((fr1 Fm18 6 rfl).trans (fr1 Fm4 6 rfl))))))))))] at h443
                                    replace h444 : (m442.1 10) = 0 → (m426.1 10) = 0 ∧ (m426.1 7) = (59 : Int) := h444
                                    rewrite [(show (m426.1 7) = (m408.1 7) from (fr1 Fm426 7 rfl))] at h444
                                    replace h445 : (m426.1 8) ≤ (m442.1 8) := h445
                                    rewrite [(show (m426.1 8) = (m408.1 8) from (fr1 Fm426 8 rfl))] at h445
                                    replace h446 : (m442.1 10) = 0 → (m426.1 8) + (m426.1 9) ≤ (m442.1 8) := h446
                                    rewrite [(show (m426.1 8) = (m408.1 8) from (fr1 Fm426 8 rfl)), (show (m426.1 9) = (m408.1 9) from (fr1 Fm426 9 rfl))] at h446
                                    have hf452 : 1 ≤ (m442.1 10) := by omega
                                    clear h444
                                    clear h446
                                    have hLx := h443
                                    clear q70a q70b q70 q71a q71b q71 ic62 ic63 ic64 ic65 ic67 ic68 g413 g414 g415 h411 u420 u419 h423 g428 g429 hf430 h432 h445
                                    refine T_gf 364 (.ref 221) rfl rfl rfl rfl rfl rfl ?_
                                    refine T_ld 365 (.int (i32 (m.1 26))) rfl (fun _ => rfl) ?_
                                    refine T_dup2 366 rfl (fun _ => rfl) ?_
                                    refine T_iald 367 51 (m60.2 51) rfl rfl rfl (by omega) (show (m.1 26) < (8 : Int) by omega) (show (m442.2 51) = (m60.2 51) from ((fr2 Fm442 51 rfl).trans ((fr2 Fm426 51 rfl).trans ((fr2 Fm408 51 rfl).trans ((fr2 Fm291 51 rfl).trans ((fr2 Fm267 51 rfl).trans (fr2 Fm250 51 rfl))))))) ?_
                                    have e453 : 0 ≤ (m60.2 51) (m.1 26) ∧ (m60.2 51) (m.1 26) ≤ 4 := (Tm60.2.1 51) (m.1 26)
                                    refine T_ld 368 (.int (i32 1)) rfl (fun _ => rfl) ?_
                                    refine T_iadd 369 rfl rfl ?_
                                    have G454 : ∀ j, 0 ≤ (upI (m60.2 51) (m.1 26) (((m60.2 51) (m.1 26)) + 1)) j ∧ (upI (m60.2 51) (m.1 26) (((m60.2 51) (m.1 26)) + 1)) j ≤ 4 := upI_rg (Tm60.2.1 51) ⟨by omega, by omega⟩
                                    refine T_iast (a' := [(51, upI (m60.2 51) (m.1 26) (((m60.2 51) (m.1 26)) + 1))]) 370 51 (m60.2 51) rfl rfl rfl (by omega) (show (m.1 26) < (8 : Int) by omega) (show (m442.2 51) = (m60.2 51) from ((fr2 Fm442 51 rfl).trans ((fr2 Fm426 51 rfl).trans ((fr2 Fm408 51 rfl).trans ((fr2 Fm291 51 rfl).trans ((fr2 Fm267 51 rfl).trans (fr2 Fm250 51 rfl))))))) rfl ?_
                                    refine T_gf 374 (.ref 222) rfl rfl rfl rfl rfl rfl ?_
                                    refine T_ld 375 (.int (i32 (m.1 26))) rfl (fun _ => rfl) ?_
                                    refine T_dup2 376 rfl (fun _ => rfl) ?_
                                    refine T_iald 377 52 (m60.2 52) rfl rfl rfl (by omega) (show (m.1 26) < (8 : Int) by omega) (show (m442.2 52) = (m60.2 52) from ((fr2 Fm442 52 rfl).trans ((fr2 Fm426 52 rfl).trans ((fr2 Fm408 52 rfl).trans ((fr2 Fm291 52 rfl).trans ((fr2 Fm267 52 rfl).trans (fr2 Fm250 52 rfl))))))) ?_
                                    have e455 : 0 ≤ (m60.2 52) (m.1 26) ∧ (m60.2 52) (m.1 26) ≤ 4096 := (Tm60.2.1 52) (m.1 26)
                                    refine T_ld 379 (.int (i32 (m267.1 69))) rfl (fun _ => rfl) ?_
                                    refine T_iadd 380 rfl rfl ?_
                                    have G456 : ∀ j, 0 ≤ (upI (m60.2 52) (m.1 26) (((m60.2 52) (m.1 26)) + (m267.1 69))) j ∧ (upI (m60.2 52) (m.1 26) (((m60.2 52) (m.1 26)) + (m267.1 69))) j ≤ 4096 := upI_rg (Tm60.2.1 52) ⟨by omega, by omega⟩
                                    refine T_iast (a' := [(51, upI (m60.2 51) (m.1 26) (((m60.2 51) (m.1 26)) + 1)), (52, upI (m60.2 52) (m.1 26) (((m60.2 52) (m.1 26)) + (m267.1 69)))]) 381 52 (m60.2 52) rfl rfl rfl (by omega) (show (m.1 26) < (8 : Int) by omega) (show (m442.2 52) = (m60.2 52) from ((fr2 Fm442 52 rfl).trans ((fr2 Fm426 52 rfl).trans ((fr2 Fm408 52 rfl).trans ((fr2 Fm291 52 rfl).trans ((fr2 Fm267 52 rfl).trans (fr2 Fm250 52 rfl))))))) rfl ?_
                                    refine T_goto 101 rfl (fun _ => rfl) ?_
                                    refine Tm_lv (a := [(0, .ref 189), (1, .int (i32 (m.1 26))), (2, .int (i32 1)), (3, .int (i32 s433))]) rfl rfl ⟨rfl, rfl, rfl, rfl, trivial⟩ ?_
                                    exact ih75 1 s433 (mO m442 [] [(51, upI (m60.2 51) (m.1 26) (((m60.2 51) (m.1 26)) + 1)), (52, upI (m60.2 52) (m.1 26) (((m60.2 52) (m.1 26)) + (m267.1 69)))]) ⟨by decide, by decide⟩ (r32 (by omega) (by omega)) (Ty_mO Tm442 rfl rfl trivial ⟨G454, G456, trivial⟩) (fr_m (fr_s Fm442 (fr_m (fr_s Fm426 (fr_m (fr_s Fm408 (fr_m (fr_s Fm291 (fr_m (fr_s Fm267 (fr_m (fr_s Fm250 (fr_m (fr_s Fm60 (fr_m fr_0 rfl rfl) rfl rfl) rfl rfl) rfl rfl) rfl rfl) rfl rfl) rfl rfl) rfl rfl) rfl rfl) rfl rfl) rfl rfl) rfl rfl) rfl rfl) rfl rfl) rfl rfl) (show 0 ≤ (1 : Int) by omega) (show (1 : Int) ≤ 1 by omega) (show 0 ≤ s433 by omega) (show s433 ≤ 1 by omega) (show LxP (m442.1 7) (m442.1 8) (m442.1 9) (m.1 6) (m442.1 10) by first | exact hLx | exact (fun _ => hLx (by omega)) | (intro h9; exfalso; omega)) (show (1 : Int) = 0 ∨ (1 : Int) = 1 by omega) (show s433 = 0 ∨ s433 = 1 by omega) (show (upI (m60.2 52) (m.1 26) (((m60.2 52) (m.1 26)) + (m267.1 69))) (m.1 26) ≤ 1024 * (upI (m60.2 51) (m.1 26) (((m60.2 51) (m.1 26)) + 1)) (m.1 26) by rw [upI_s, upI_s]; omega) (fun (h : (m442.1 10) = 0) => absurd h (by omega)) (show 1000000 * (8 - (m442.1 10)) + (4000 - (m442.1 8)) < (n74 : Int) by omega)
                                  refine T_if 348 340 rfl rfl rfl (r32 (by omega) (by omega)) (fun (h457 : v59 ≠ 0) => ?_) (fun (h457 : ¬ (v59 ≠ 0)) => ?_)
                                  · skip
                                    refine T_ld 349 (.int (i32 1)) rfl (fun _ => rfl) ?_
                                    refine T_goto 353 rfl (fun _ => rfl) ?_
                                    refine Tm_lv (a := [(0, .ref 189), (1, .int (i32 (m.1 26))), (2, .int (i32 1)), (3, .int (i32 v59)), (4, .int (i32 ((4 * (m.1 26)) + ((m60.2 51) (m.1 26))))), (5, .int (i32 (m267.1 69))), (6, .int (i32 (m291.1 8))), (7, .int (i32 (m291.1 7)))]) rfl rfl ⟨rfl, rfl, rfl, rfl, rfl, rfl, rfl, rfl, trivial⟩ ?_
                                    exact J353_434 1 ⟨by decide, by decide⟩ (show 0 ≤ (1 : Int) by omega) (show (1 : Int) ≤ 1 by omega)
                                  · skip
                                    refine T_ld 342 (.int (i32 (m291.1 7))) rfl (fun _ => rfl) ?_
                                    refine T_ld 345 (.int (i32 314)) rfl (fun _ => rfl) ?_
                                    refine T_icmp 352 348 rfl rfl rfl (r32 (by omega) (by omega)) ⟨by decide, by decide⟩ (fun (h458 : (m291.1 7) ≠ 314) => ?_) (fun (h458 : ¬ ((m291.1 7) ≠ 314)) => by exfalso; omega)
                                    refine T_ld 353 (.int (i32 0)) rfl (fun _ => rfl) ?_
                                    refine Tm_lv (a := [(0, .ref 189), (1, .int (i32 (m.1 26))), (2, .int (i32 1)), (3, .int (i32 v59)), (4, .int (i32 ((4 * (m.1 26)) + ((m60.2 51) (m.1 26))))), (5, .int (i32 (m267.1 69))), (6, .int (i32 (m291.1 8))), (7, .int (i32 (m291.1 7)))]) rfl rfl ⟨rfl, rfl, rfl, rfl, rfl, rfl, rfl, rfl, trivial⟩ ?_
                                    exact J353_434 0 ⟨by decide, by decide⟩ (show 0 ≤ (0 : Int) by omega) (show (0 : Int) ≤ 1 by omega)
                                · skip
                                  refine T_ld 286 (.int (i32 v59)) rfl (fun _ => rfl) ?_
                                  refine T_if 301 289 rfl rfl rfl (r32 (by omega) (by omega)) (fun (h459 : v59 ≠ 0) => ?_) (fun (h459 : ¬ (v59 ≠ 0)) => ?_)
                                  · skip
                                    refine T_ld 302 (.ref 189) rfl (fun _ => rfl) ?_
                                    refine T_ld 304 (.int (i32 8)) rfl (fun _ => rfl) ?_
                                    refine T_ld 306 (.int (i32 (m291.1 8))) rfl (fun _ => rfl) ?_
                                    refine T_call 309 222 [.ref 189, .int (i32 8), .int (i32 (m291.1 8))] [] rfl (fun _ => rfl) rfl (d_wrong w (mO m408 [] []) c N D (by omega) Tm408 8 (m291.1 8) ⟨by decide, by decide⟩ (r32 (by omega) (by omega)) (show 1 ≤ (8 : Int) ∧ (8 : Int) ≤ 8 by omega) (show 0 ≤ (m291.1 8) ∧ (m291.1 8) ≤ 4000 by omega)) (fun rr460 k461 => ?_)
                                    obtain ⟨m462, Tm462, Fm462, h463, rfl⟩ := k461
                                    refine ⟨_, _, rfl, ?_⟩
                                    refine T_nb (st' := []) rfl ?_
                                    have g464 : 0 ≤ m462.1 10 ∧ m462.1 10 ≤ 8 := Tm462.1 10
                                    have g465 : (-1) ≤ m462.1 11 ∧ m462.1 11 ≤ 4000 := Tm462.1 11
                                    replace h463 : (0 < (m408.1 10) → (m462.1 10) = (m408.1 10) ∧ (m462.1 11) = (m408.1 11)) ∧ ((m408.1 10) ≤ 0 → (m462.1 10) = (8 : Int) ∧ (m462.1 11) = (m291.1 8)) := h463
                                    have hf466 : 1 ≤ (m462.1 10) := by omega
                                    clear g416 g417 h409 h421 h463
                                    refine T_gf 313 (.ref 273) rfl rfl rfl rfl rfl rfl ?_
                                    refine T_ld 315 (.int (i32 ((4 * (m.1 26)) + ((m60.2 51) (m.1 26))))) rfl (fun _ => rfl) ?_
                                    refine T_ld 317 (.int (i32 (m291.1 7))) rfl (fun _ => rfl) ?_
                                    have G467 : ∀ j, 0 ≤ (upI (m60.2 113) ((4 * (m.1 26)) + ((m60.2 51) (m.1 26))) (m291.1 7)) j ∧ (upI (m60.2 113) ((4 * (m.1 26)) + ((m60.2 51) (m.1 26))) (m291.1 7)) j ≤ 330 := upI_rg (Tm60.2.1 113) ⟨by omega, by omega⟩
                                    refine T_iast (a' := [(113, upI (m60.2 113) ((4 * (m.1 26)) + ((m60.2 51) (m.1 26))) (m291.1 7))]) 318 113 (m60.2 113) rfl rfl rfl (by omega) (show ((4 * (m.1 26)) + ((m60.2 51) (m.1 26))) < (32 : Int) by omega) (show (m462.2 113) = (m60.2 113) from ((fr2 Fm462 113 rfl).trans ((fr2 Fm408 113 rfl).trans ((fr2 Fm291 113 rfl).trans ((fr2 Fm267 113 rfl).trans (fr2 Fm250 113 rfl)))))) rfl ?_
                                    refine T_ld 319 (.int (i32 v58)) rfl (fun _ => rfl) ?_
                                    refine T_if 330 322 rfl rfl rfl (r32 (by omega) (by omega)) (fun (h468 : v58 ≠ 0) => by exfalso; omega) (fun (h468 : ¬ (v58 ≠ 0)) => ?_)
                                    refine T_ld 324 (.int (i32 (m291.1 7))) rfl (fun _ => rfl) ?_
                                    refine T_ld 327 (.int (i32 313)) rfl (fun _ => rfl) ?_
                                    refine T_icmp 334 330 rfl rfl rfl (r32 (by omega) (by omega)) ⟨by decide, by decide⟩ (fun (h469 : (m291.1 7) ≠ 313) => by exfalso; omega) (fun (h469 : ¬ ((m291.1 7) ≠ 313)) => ?_)
                                    refine T_ld 331 (.int (i32 1)) rfl (fun _ => rfl) ?_
                                    refine T_goto 335 rfl (fun _ => rfl) ?_
                                    refine T_sto 336 [(2, .int (i32 1)), (7, .int (i32 (m291.1 7))), (6, .int (i32 (m291.1 8))), (5, .int (i32 (m267.1 69))), (4, .int (i32 ((4 * (m.1 26)) + ((m60.2 51) (m.1 26))))), (0, .ref 189), (1, .int (i32 (m.1 26))), (3, .int (i32 v59))] rfl (fun _ => rfl) ?_
                                    refine T_ld 337 (.int (i32 v59)) rfl (fun _ => rfl) ?_
                                    refine T_if 348 340 rfl rfl rfl (r32 (by omega) (by omega)) (fun (h470 : v59 ≠ 0) => ?_) (fun (h470 : ¬ (v59 ≠ 0)) => by exfalso; omega)
                                    refine T_ld 349 (.int (i32 1)) rfl (fun _ => rfl) ?_
                                    refine T_goto 353 rfl (fun _ => rfl) ?_
                                    refine T_sto 354 [(3, .int (i32 1)), (2, .int (i32 1)), (7, .int (i32 (m291.1 7))), (6, .int (i32 (m291.1 8))), (5, .int (i32 (m267.1 69))), (4, .int (i32 ((4 * (m.1 26)) + ((m60.2 51) (m.1 26))))), (0, .ref 189), (1, .int (i32 (m.1 26)))] rfl (fun _ => rfl) ?_
                                    refine T_ld 355 (.ref 189) rfl (fun _ => rfl) ?_
                                    refine T_ld 357 (.int (i32 59)) rfl (fun _ => rfl) ?_
                                    refine T_call 360 232 [.ref 189, .int (i32 59)] [] rfl (fun _ => rfl) rfl (d_need w (mO m462 [] [(113, upI (m60.2 113) ((4 * (m.1 26)) + ((m60.2 51) (m.1 26))) (m291.1 7))]) c N D (by omega) (Ty_mO Tm462 rfl rfl trivial ⟨G467, trivial⟩) 59 ⟨by decide, by decide⟩ (show 1 ≤ (59 : Int) by omega) (show LxP (m462.1 7) (m462.1 8) (m462.1 9) (m462.1 6) (m462.1 10) by rewrite [(show (m462.1 7) = (m408.1 7) from (fr1 Fm462 7 rfl)), (show (m462.1 8) = (m408.1 8) from (fr1 Fm462 8 rfl)), (show (m462.1 9) = (m408.1 9) from (fr1 Fm462 9 rfl)), (show (m462.1 6) = (m.1 6) from ((fr1 Fm462 6 rfl).trans ((fr1 Fm408 6 rfl).trans ((fr1 Fm291 6 rfl).trans ((fr1 Fm267 6 rfl).trans ((fr1 Fm250 6 rfl).trans ((fr1 Fm60 6 rfl).trans ((fr1 Fm44 6 rfl).trans ((fr1 Fm18 6 rfl).trans (fr1 Fm4 6 rfl))))))))))]; first | exact hLx | (intro h9; exfalso; omega) | (intro h9; have h8 := hLx (by omega); omega))) (fun rr471 k472 => ?_)
                                    obtain ⟨m473, Tm473, Fm473, h474, h475, h476, h477, rfl⟩ := k472
                                    refine ⟨_, _, rfl, ?_⟩
                                    refine T_nb (st' := []) rfl ?_
                                    have g478 : 0 ≤ m473.1 7 ∧ m473.1 7 ≤ 330 := Tm473.1 7
                                    have g479 : 0 ≤ m473.1 8 ∧ m473.1 8 ≤ 4000 := Tm473.1 8
                                    have g480 : 0 ≤ m473.1 9 ∧ m473.1 9 ≤ 4000 := Tm473.1 9
                                    have g481 : 0 ≤ m473.1 10 ∧ m473.1 10 ≤ 8 := Tm473.1 10
                                    have g482 : (-1) ≤ m473.1 11 ∧ m473.1 11 ≤ 4000 := Tm473.1 11
                                    replace h474 : LxP (m473.1 7) (m473.1 8) (m473.1 9) (m462.1 6) (m473.1 10) := h474
                                    rewrite [(show (m462.1 6) = (m.1 6) from ((fr1 Fm462 6 rfl).trans ((fr1 Fm408 6 rfl).trans ((fr1 Fm291 6 rfl).trans ((fr1 Fm267 6 rfl).trans ((fr1 Fm250 6 rfl).trans ((fr1 Fm60 6 rfl).trans ((fr1 Fm44 6 rfl).trans ((fr1 Fm18 6 rfl).trans (fr1 Fm4 6 rfl))))))))))] at h474
                                    replace h475 : (m473.1 10) = 0 → (m462.1 10) = 0 ∧ (m462.1 7) = (59 : Int) := h475
                                    rewrite [(show (m462.1 7) = (m408.1 7) from (fr1 Fm462 7 rfl))] at h475
                                    replace h476 : (m462.1 8) ≤ (m473.1 8) := h476
                                    rewrite [(show (m462.1 8) = (m408.1 8) from (fr1 Fm462 8 rfl))] at h476
                                    replace h477 : (m473.1 10) = 0 → (m462.1 8) + (m462.1 9) ≤ (m473.1 8) := h477
                                    rewrite [(show (m462.1 8) = (m408.1 8) from (fr1 Fm462 8 rfl)), (show (m462.1 9) = (m408.1 9) from (fr1 Fm462 9 rfl))] at h477
                                    have hf483 : 1 ≤ (m473.1 10) := by omega
                                    clear h475
                                    clear h477
                                    have hLx := h474
                                    clear q70a q70b q70 q71a q71b q71 ic62 ic63 ic64 ic65 ic67 ic68 g413 g414 g415 h411 u420 u419 h423 h459 g464 g465 hf466 h468 h470 h476
                                    refine T_gf 364 (.ref 221) rfl rfl rfl rfl rfl rfl ?_
                                    refine T_ld 365 (.int (i32 (m.1 26))) rfl (fun _ => rfl) ?_
                                    refine T_dup2 366 rfl (fun _ => rfl) ?_
                                    refine T_iald 367 51 (m60.2 51) rfl rfl rfl (by omega) (show (m.1 26) < (8 : Int) by omega) (show (m473.2 51) = (m60.2 51) from ((fr2 Fm473 51 rfl).trans ((fr2 Fm462 51 rfl).trans ((fr2 Fm408 51 rfl).trans ((fr2 Fm291 51 rfl).trans ((fr2 Fm267 51 rfl).trans (fr2 Fm250 51 rfl))))))) ?_
                                    have e484 : 0 ≤ (m60.2 51) (m.1 26) ∧ (m60.2 51) (m.1 26) ≤ 4 := (Tm60.2.1 51) (m.1 26)
                                    refine T_ld 368 (.int (i32 1)) rfl (fun _ => rfl) ?_
                                    refine T_iadd 369 rfl rfl ?_
                                    have G485 : ∀ j, 0 ≤ (upI (m60.2 51) (m.1 26) (((m60.2 51) (m.1 26)) + 1)) j ∧ (upI (m60.2 51) (m.1 26) (((m60.2 51) (m.1 26)) + 1)) j ≤ 4 := upI_rg (Tm60.2.1 51) ⟨by omega, by omega⟩
                                    refine T_iast (a' := [(51, upI (m60.2 51) (m.1 26) (((m60.2 51) (m.1 26)) + 1))]) 370 51 (m60.2 51) rfl rfl rfl (by omega) (show (m.1 26) < (8 : Int) by omega) (show (m473.2 51) = (m60.2 51) from ((fr2 Fm473 51 rfl).trans ((fr2 Fm462 51 rfl).trans ((fr2 Fm408 51 rfl).trans ((fr2 Fm291 51 rfl).trans ((fr2 Fm267 51 rfl).trans (fr2 Fm250 51 rfl))))))) rfl ?_
                                    refine T_gf 374 (.ref 222) rfl rfl rfl rfl rfl rfl ?_
                                    refine T_ld 375 (.int (i32 (m.1 26))) rfl (fun _ => rfl) ?_
                                    refine T_dup2 376 rfl (fun _ => rfl) ?_
                                    refine T_iald 377 52 (m60.2 52) rfl rfl rfl (by omega) (show (m.1 26) < (8 : Int) by omega) (show (m473.2 52) = (m60.2 52) from ((fr2 Fm473 52 rfl).trans ((fr2 Fm462 52 rfl).trans ((fr2 Fm408 52 rfl).trans ((fr2 Fm291 52 rfl).trans ((fr2 Fm267 52 rfl).trans (fr2 Fm250 52 rfl))))))) ?_
                                    have e486 : 0 ≤ (m60.2 52) (m.1 26) ∧ (m60.2 52) (m.1 26) ≤ 4096 := (Tm60.2.1 52) (m.1 26)
                                    refine T_ld 379 (.int (i32 (m267.1 69))) rfl (fun _ => rfl) ?_
                                    refine T_iadd 380 rfl rfl ?_
                                    have G487 : ∀ j, 0 ≤ (upI (m60.2 52) (m.1 26) (((m60.2 52) (m.1 26)) + (m267.1 69))) j ∧ (upI (m60.2 52) (m.1 26) (((m60.2 52) (m.1 26)) + (m267.1 69))) j ≤ 4096 := upI_rg (Tm60.2.1 52) ⟨by omega, by omega⟩
                                    refine T_iast (a' := [(51, upI (m60.2 51) (m.1 26) (((m60.2 51) (m.1 26)) + 1)), (52, upI (m60.2 52) (m.1 26) (((m60.2 52) (m.1 26)) + (m267.1 69)))]) 381 52 (m60.2 52) rfl rfl rfl (by omega) (show (m.1 26) < (8 : Int) by omega) (show (m473.2 52) = (m60.2 52) from ((fr2 Fm473 52 rfl).trans ((fr2 Fm462 52 rfl).trans ((fr2 Fm408 52 rfl).trans ((fr2 Fm291 52 rfl).trans ((fr2 Fm267 52 rfl).trans (fr2 Fm250 52 rfl))))))) rfl ?_
                                    refine T_goto 101 rfl (fun _ => rfl) ?_
                                    refine Tm_lv (a := [(0, .ref 189), (1, .int (i32 (m.1 26))), (2, .int (i32 1)), (3, .int (i32 1))]) rfl rfl ⟨rfl, rfl, rfl, rfl, trivial⟩ ?_
                                    exact ih75 1 1 (mO m473 [] [(51, upI (m60.2 51) (m.1 26) (((m60.2 51) (m.1 26)) + 1)), (52, upI (m60.2 52) (m.1 26) (((m60.2 52) (m.1 26)) + (m267.1 69)))]) ⟨by decide, by decide⟩ ⟨by decide, by decide⟩ (Ty_mO Tm473 rfl rfl trivial ⟨G485, G487, trivial⟩) (fr_m (fr_s Fm473 (fr_m (fr_s Fm462 (fr_m (fr_s Fm408 (fr_m (fr_s Fm291 (fr_m (fr_s Fm267 (fr_m (fr_s Fm250 (fr_m (fr_s Fm60 (fr_m fr_0 rfl rfl) rfl rfl) rfl rfl) rfl rfl) rfl rfl) rfl rfl) rfl rfl) rfl rfl) rfl rfl) rfl rfl) rfl rfl) rfl rfl) rfl rfl) rfl rfl) rfl rfl) (show 0 ≤ (1 : Int) by omega) (show (1 : Int) ≤ 1 by omega) (show 0 ≤ (1 : Int) by omega) (show (1 : Int) ≤ 1 by omega) (show LxP (m473.1 7) (m473.1 8) (m473.1 9) (m.1 6) (m473.1 10) by first | exact hLx | exact (fun _ => hLx (by omega)) | (intro h9; exfalso; omega)) (show (1 : Int) = 0 ∨ (1 : Int) = 1 by omega) (show (1 : Int) = 0 ∨ (1 : Int) = 1 by omega) (show (upI (m60.2 52) (m.1 26) (((m60.2 52) (m.1 26)) + (m267.1 69))) (m.1 26) ≤ 1024 * (upI (m60.2 51) (m.1 26) (((m60.2 51) (m.1 26)) + 1)) (m.1 26) by rw [upI_s, upI_s]; omega) (fun (h : (m473.1 10) = 0) => absurd h (by omega)) (show 1000000 * (8 - (m473.1 10)) + (4000 - (m473.1 8)) < (n74 : Int) by omega)
                                  · skip
                                    refine T_ld 291 (.int (i32 (m291.1 7))) rfl (fun _ => rfl) ?_
                                    refine T_ld 294 (.int (i32 314)) rfl (fun _ => rfl) ?_
                                    refine T_icmp 309 297 rfl rfl rfl (r32 (by omega) (by omega)) ⟨by decide, by decide⟩ (fun (h488 : (m291.1 7) ≠ 314) => ?_) (fun (h488 : ¬ ((m291.1 7) ≠ 314)) => by exfalso; omega)
                                    refine T_gf 313 (.ref 273) rfl rfl rfl rfl rfl rfl ?_
                                    refine T_ld 315 (.int (i32 ((4 * (m.1 26)) + ((m60.2 51) (m.1 26))))) rfl (fun _ => rfl) ?_
                                    refine T_ld 317 (.int (i32 (m291.1 7))) rfl (fun _ => rfl) ?_
                                    have G489 : ∀ j, 0 ≤ (upI (m60.2 113) ((4 * (m.1 26)) + ((m60.2 51) (m.1 26))) (m291.1 7)) j ∧ (upI (m60.2 113) ((4 * (m.1 26)) + ((m60.2 51) (m.1 26))) (m291.1 7)) j ≤ 330 := upI_rg (Tm60.2.1 113) ⟨by omega, by omega⟩
                                    refine T_iast (a' := [(113, upI (m60.2 113) ((4 * (m.1 26)) + ((m60.2 51) (m.1 26))) (m291.1 7))]) 318 113 (m60.2 113) rfl rfl rfl (by omega) (show ((4 * (m.1 26)) + ((m60.2 51) (m.1 26))) < (32 : Int) by omega) (show (m408.2 113) = (m60.2 113) from ((fr2 Fm408 113 rfl).trans ((fr2 Fm291 113 rfl).trans ((fr2 Fm267 113 rfl).trans (fr2 Fm250 113 rfl))))) rfl ?_
                                    refine T_ld 319 (.int (i32 v58)) rfl (fun _ => rfl) ?_
                                    refine T_if 330 322 rfl rfl rfl (r32 (by omega) (by omega)) (fun (h490 : v58 ≠ 0) => by exfalso; omega) (fun (h490 : ¬ (v58 ≠ 0)) => ?_)
                                    refine T_ld 324 (.int (i32 (m291.1 7))) rfl (fun _ => rfl) ?_
                                    refine T_ld 327 (.int (i32 313)) rfl (fun _ => rfl) ?_
                                    refine T_icmp 334 330 rfl rfl rfl (r32 (by omega) (by omega)) ⟨by decide, by decide⟩ (fun (h491 : (m291.1 7) ≠ 313) => by exfalso; omega) (fun (h491 : ¬ ((m291.1 7) ≠ 313)) => ?_)
                                    refine T_ld 331 (.int (i32 1)) rfl (fun _ => rfl) ?_
                                    refine T_goto 335 rfl (fun _ => rfl) ?_
                                    refine T_sto 336 [(2, .int (i32 1)), (7, .int (i32 (m291.1 7))), (6, .int (i32 (m291.1 8))), (5, .int (i32 (m267.1 69))), (4, .int (i32 ((4 * (m.1 26)) + ((m60.2 51) (m.1 26))))), (0, .ref 189), (1, .int (i32 (m.1 26))), (3, .int (i32 v59))] rfl (fun _ => rfl) ?_
                                    refine T_ld 337 (.int (i32 v59)) rfl (fun _ => rfl) ?_
                                    refine T_if 348 340 rfl rfl rfl (r32 (by omega) (by omega)) (fun (h492 : v59 ≠ 0) => by exfalso; omega) (fun (h492 : ¬ (v59 ≠ 0)) => ?_)
                                    refine T_ld 342 (.int (i32 (m291.1 7))) rfl (fun _ => rfl) ?_
                                    refine T_ld 345 (.int (i32 314)) rfl (fun _ => rfl) ?_
                                    refine T_icmp 352 348 rfl rfl rfl (r32 (by omega) (by omega)) ⟨by decide, by decide⟩ (fun (h493 : (m291.1 7) ≠ 314) => ?_) (fun (h493 : ¬ ((m291.1 7) ≠ 314)) => by exfalso; omega)
                                    refine T_ld 353 (.int (i32 0)) rfl (fun _ => rfl) ?_
                                    refine T_sto 354 [(3, .int (i32 0)), (2, .int (i32 1)), (7, .int (i32 (m291.1 7))), (6, .int (i32 (m291.1 8))), (5, .int (i32 (m267.1 69))), (4, .int (i32 ((4 * (m.1 26)) + ((m60.2 51) (m.1 26))))), (0, .ref 189), (1, .int (i32 (m.1 26)))] rfl (fun _ => rfl) ?_
                                    refine T_ld 355 (.ref 189) rfl (fun _ => rfl) ?_
                                    refine T_ld 357 (.int (i32 59)) rfl (fun _ => rfl) ?_
                                    refine T_call 360 232 [.ref 189, .int (i32 59)] [] rfl (fun _ => rfl) rfl (d_need w (mO m408 [] [(113, upI (m60.2 113) ((4 * (m.1 26)) + ((m60.2 51) (m.1 26))) (m291.1 7))]) c N D (by omega) (Ty_mO Tm408 rfl rfl trivial ⟨G489, trivial⟩) 59 ⟨by decide, by decide⟩ (show 1 ≤ (59 : Int) by omega) (show LxP (m408.1 7) (m408.1 8) (m408.1 9) (m408.1 6) (m408.1 10) by rewrite [(show (m408.1 6) = (m.1 6) from ((fr1 Fm408 6 rfl).trans ((fr1 Fm291 6 rfl).trans ((fr1 Fm267 6 rfl).trans ((fr1 Fm250 6 rfl).trans ((fr1 Fm60 6 rfl).trans ((fr1 Fm44 6 rfl).trans ((fr1 Fm18 6 rfl).trans (fr1 Fm4 6 rfl)))))))))]; first | exact hLx | (intro h9; exfalso; omega) | (intro h9; have h8 := hLx (by omega); omega))) (fun rr494 k495 => ?_)
                                    obtain ⟨m496, Tm496, Fm496, h497, h498, h499, h500, rfl⟩ := k495
                                    refine ⟨_, _, rfl, ?_⟩
                                    refine T_nb (st' := []) rfl ?_
                                    have g501 : 0 ≤ m496.1 7 ∧ m496.1 7 ≤ 330 := Tm496.1 7
                                    have g502 : 0 ≤ m496.1 8 ∧ m496.1 8 ≤ 4000 := Tm496.1 8
                                    have g503 : 0 ≤ m496.1 9 ∧ m496.1 9 ≤ 4000 := Tm496.1 9
                                    have g504 : 0 ≤ m496.1 10 ∧ m496.1 10 ≤ 8 := Tm496.1 10
                                    have g505 : (-1) ≤ m496.1 11 ∧ m496.1 11 ≤ 4000 := Tm496.1 11
                                    by_cases hf506 : (m496.1 10) = 0
                                    · skip
                                      replace h497 : LxP (m496.1 7) (m496.1 8) (m496.1 9) (m408.1 6) (m496.1 10) := h497
                                      rewrite [(show (m408.1 6) = (m.1 6) from ((fr1 Fm408 6 rfl).trans ((fr1 Fm291 6 rfl).trans ((fr1 Fm267 6 rfl).trans ((fr1 Fm250 6 rfl).trans ((fr1 Fm60 6 rfl).trans ((fr1 Fm44 6 rfl).trans ((fr1 Fm18 6 rfl).trans (fr1 Fm4 6 rfl)))))))))] at h497
                                      have hLx := h497
                                      replace h498 : (m408.1 10) = 0 ∧ (m408.1 7) = (59 : Int) := h498 hf506
                                      replace h499 : (m408.1 8) ≤ (m496.1 8) := h499
                                      replace h500 : (m408.1 8) + (m408.1 9) ≤ (m496.1 8) := h500 hf506
                                      have u507 : (m60.1 8) + 1 ≤ (m496.1 8) := by omega
                                      have u508 : (m.1 8) + 1 ≤ (m496.1 8) := by omega
                                      have hAgC : agr (m.2 65) (m267.2 65) (m.1 28) := by first | exact agr_r _ _ | exact hAgC | exact agr_t hAgC hAg (by omega)
                                      clear q70a q70b q70 q71a q71b q71 ic62 ic63 ic64 ic65 ic67 ic68 g413 g414 g415 g416 g417 h409 h411 u420 u419 h421 h423 h459 h490 h492 h498 h499 h500
                                      refine T_gf 364 (.ref 221) rfl rfl rfl rfl rfl rfl ?_
                                      refine T_ld 365 (.int (i32 (m.1 26))) rfl (fun _ => rfl) ?_
                                      refine T_dup2 366 rfl (fun _ => rfl) ?_
                                      refine T_iald 367 51 (m60.2 51) rfl rfl rfl (by omega) (show (m.1 26) < (8 : Int) by omega) (show (m496.2 51) = (m60.2 51) from ((fr2 Fm496 51 rfl).trans ((fr2 Fm408 51 rfl).trans ((fr2 Fm291 51 rfl).trans ((fr2 Fm267 51 rfl).trans (fr2 Fm250 51 rfl)))))) ?_
                                      have e509 : 0 ≤ (m60.2 51) (m.1 26) ∧ (m60.2 51) (m.1 26) ≤ 4 := (Tm60.2.1 51) (m.1 26)
                                      refine T_ld 368 (.int (i32 1)) rfl (fun _ => rfl) ?_
                                      refine T_iadd 369 rfl rfl ?_
                                      have G510 : ∀ j, 0 ≤ (upI (m60.2 51) (m.1 26) (((m60.2 51) (m.1 26)) + 1)) j ∧ (upI (m60.2 51) (m.1 26) (((m60.2 51) (m.1 26)) + 1)) j ≤ 4 := upI_rg (Tm60.2.1 51) ⟨by omega, by omega⟩
                                      refine T_iast (a' := [(51, upI (m60.2 51) (m.1 26) (((m60.2 51) (m.1 26)) + 1))]) 370 51 (m60.2 51) rfl rfl rfl (by omega) (show (m.1 26) < (8 : Int) by omega) (show (m496.2 51) = (m60.2 51) from ((fr2 Fm496 51 rfl).trans ((fr2 Fm408 51 rfl).trans ((fr2 Fm291 51 rfl).trans ((fr2 Fm267 51 rfl).trans (fr2 Fm250 51 rfl)))))) rfl ?_
                                      refine T_gf 374 (.ref 222) rfl rfl rfl rfl rfl rfl ?_
                                      refine T_ld 375 (.int (i32 (m.1 26))) rfl (fun _ => rfl) ?_
                                      refine T_dup2 376 rfl (fun _ => rfl) ?_
                                      refine T_iald 377 52 (m60.2 52) rfl rfl rfl (by omega) (show (m.1 26) < (8 : Int) by omega) (show (m496.2 52) = (m60.2 52) from ((fr2 Fm496 52 rfl).trans ((fr2 Fm408 52 rfl).trans ((fr2 Fm291 52 rfl).trans ((fr2 Fm267 52 rfl).trans (fr2 Fm250 52 rfl)))))) ?_
                                      have e511 : 0 ≤ (m60.2 52) (m.1 26) ∧ (m60.2 52) (m.1 26) ≤ 4096 := (Tm60.2.1 52) (m.1 26)
                                      refine T_ld 379 (.int (i32 (m267.1 69))) rfl (fun _ => rfl) ?_
                                      refine T_iadd 380 rfl rfl ?_
                                      have G512 : ∀ j, 0 ≤ (upI (m60.2 52) (m.1 26) (((m60.2 52) (m.1 26)) + (m267.1 69))) j ∧ (upI (m60.2 52) (m.1 26) (((m60.2 52) (m.1 26)) + (m267.1 69))) j ≤ 4096 := upI_rg (Tm60.2.1 52) ⟨by omega, by omega⟩
                                      refine T_iast (a' := [(51, upI (m60.2 51) (m.1 26) (((m60.2 51) (m.1 26)) + 1)), (52, upI (m60.2 52) (m.1 26) (((m60.2 52) (m.1 26)) + (m267.1 69)))]) 381 52 (m60.2 52) rfl rfl rfl (by omega) (show (m.1 26) < (8 : Int) by omega) (show (m496.2 52) = (m60.2 52) from ((fr2 Fm496 52 rfl).trans ((fr2 Fm408 52 rfl).trans ((fr2 Fm291 52 rfl).trans ((fr2 Fm267 52 rfl).trans (fr2 Fm250 52 rfl)))))) rfl ?_
                                      have hKY : ∀ k, 4 * (m.1 26) ≤ k → k < 4 * (m.1 26) + (upI (m60.2 51) (m.1 26) (((m60.2 51) (m.1 26)) + 1)) (m.1 26) → cdr (m267.2 65) (m267.1 28) ((upI (m60.2 110) ((4 * (m.1 26)) + ((m60.2 51) (m.1 26))) (m60.1 28)) k) ((upI (m60.2 111) ((4 * (m.1 26)) + ((m60.2 51) (m.1 26))) (m267.1 28)) k) := by
                                        intro k k0 k1
                                        rw [upI_s] at k1
                                        by_cases e : k = ((4 * (m.1 26)) + ((m60.2 51) (m.1 26)))
                                        · rw [e]
                                          exact hCd
                                        · rw [upI_n e, upI_n e]
                                          exact cdr_f (hKY k k0 (by omega)) hAgK (by omega)
                                      refine T_goto 101 rfl (fun _ => rfl) ?_
                                      refine Tm_lv (a := [(0, .ref 189), (1, .int (i32 (m.1 26))), (2, .int (i32 1)), (3, .int (i32 0))]) rfl rfl ⟨rfl, rfl, rfl, rfl, trivial⟩ ?_
                                      exact ih75 1 0 (mO m496 [] [(51, upI (m60.2 51) (m.1 26) (((m60.2 51) (m.1 26)) + 1)), (52, upI (m60.2 52) (m.1 26) (((m60.2 52) (m.1 26)) + (m267.1 69)))]) ⟨by decide, by decide⟩ ⟨by decide, by decide⟩ (Ty_mO Tm496 rfl rfl trivial ⟨G510, G512, trivial⟩) (fr_m (fr_s Fm496 (fr_m (fr_s Fm408 (fr_m (fr_s Fm291 (fr_m (fr_s Fm267 (fr_m (fr_s Fm250 (fr_m (fr_s Fm60 (fr_m fr_0 rfl rfl) rfl rfl) rfl rfl) rfl rfl) rfl rfl) rfl rfl) rfl rfl) rfl rfl) rfl rfl) rfl rfl) rfl rfl) rfl rfl) rfl rfl) (show 0 ≤ (1 : Int) by omega) (show (1 : Int) ≤ 1 by omega) (show 0 ≤ (0 : Int) by omega) (show (0 : Int) ≤ 1 by omega) (show LxP (m496.1 7) (m496.1 8) (m496.1 9) (m.1 6) (m496.1 10) by first | exact hLx | exact (fun _ => hLx (by omega)) | (intro h9; exfalso; omega)) (show (1 : Int) = 0 ∨ (1 : Int) = 1 by omega) (show (0 : Int) = 0 ∨ (0 : Int) = 1 by omega) (show (upI (m60.2 52) (m.1 26) (((m60.2 52) (m.1 26)) + (m267.1 69))) (m.1 26) ≤ 1024 * (upI (m60.2 51) (m.1 26) (((m60.2 51) (m.1 26)) + 1)) (m.1 26) by rw [upI_s, upI_s]; omega) (fun _ => ⟨(show (m.1 8) + 1 ≤ (m496.1 8) by omega), (show CN (m496.2 65) (m496.2 67) (m496.1 28) by rewrite [(show (m496.2 65) = (m267.2 65) from ((fr2 Fm496 65 rfl).trans ((fr2 Fm408 65 rfl).trans (fr2 Fm291 65 rfl)))), (show (m496.2 67) = (m267.2 67) from ((fr2 Fm496 67 rfl).trans ((fr2 Fm408 67 rfl).trans (fr2 Fm291 67 rfl)))), (show (m496.1 28) = (m267.1 28) from ((fr1 Fm496 28 rfl).trans ((fr1 Fm408 28 rfl).trans (fr1 Fm291 28 rfl))))]; exact hCN), (show (m.1 28) ≤ (m496.1 28) by rewrite [(show (m496.1 28) = (m267.1 28) from ((fr1 Fm496 28 rfl).trans ((fr1 Fm408 28 rfl).trans (fr1 Fm291 28 rfl))))]; omega), (show agr (m.2 65) (m496.2 65) (m.1 28) by rewrite [(show (m496.2 65) = (m267.2 65) from ((fr2 Fm496 65 rfl).trans ((fr2 Fm408 65 rfl).trans (fr2 Fm291 65 rfl))))]; exact hAgC), (show ∀ k, 4 * (m.1 26) ≤ k → k < 4 * (m.1 26) + (upI (m60.2 51) (m.1 26) (((m60.2 51) (m.1 26)) + 1)) (m.1 26) → cdr (m496.2 65) (m496.1 28) ((m496.2 110) k) ((m496.2 111) k) by rewrite [(show (m496.2 65) = (m267.2 65) from ((fr2 Fm496 65 rfl).trans ((fr2 Fm408 65 rfl).trans (fr2 Fm291 65 rfl)))), (show (m496.1 28) = (m267.1 28) from ((fr1 Fm496 28 rfl).trans ((fr1 Fm408 28 rfl).trans (fr1 Fm291 28 rfl)))), (show (m496.2 110) = (upI (m60.2 110) ((4 * (m.1 26)) + ((m60.2 51) (m.1 26))) (m60.1 28)) from ((fr2 Fm496 110 rfl).trans ((fr2 Fm408 110 rfl).trans ((fr2 Fm291 110 rfl).trans (fr2 Fm267 110 rfl))))), (show (m496.2 111) = (upI (m60.2 111) ((4 * (m.1 26)) + ((m60.2 51) (m.1 26))) (m267.1 28)) from ((fr2 Fm496 111 rfl).trans ((fr2 Fm408 111 rfl).trans (fr2 Fm291 111 rfl))))]; exact hKY), (show agr (m.2 51) (upI (m60.2 51) (m.1 26) (((m60.2 51) (m.1 26)) + 1)) (m.1 26) by first | exact hK1 | exact agr_t hK1 (agr_u (Int.le_refl _)) (Int.le_refl _)), (show agr (m.2 110) (m496.2 110) (4 * (m.1 26)) by rewrite [(show (m496.2 110) = (upI (m60.2 110) ((4 * (m.1 26)) + ((m60.2 51) (m.1 26))) (m60.1 28)) from ((fr2 Fm496 110 rfl).trans ((fr2 Fm408 110 rfl).trans ((fr2 Fm291 110 rfl).trans (fr2 Fm267 110 rfl)))))]; first | exact hK2 | exact agr_t hK2 (agr_u (by omega)) (Int.le_refl _)), (show agr (m.2 111) (m496.2 111) (4 * (m.1 26)) by rewrite [(show (m496.2 111) = (upI (m60.2 111) ((4 * (m.1 26)) + ((m60.2 51) (m.1 26))) (m267.1 28)) from ((fr2 Fm496 111 rfl).trans ((fr2 Fm408 111 rfl).trans (fr2 Fm291 111 rfl))))]; first | exact hK3 | exact agr_t hK3 (agr_u (by omega)) (Int.le_refl _))⟩) (show 1000000 * (8 - (m496.1 10)) + (4000 - (m496.1 8)) < (n74 : Int) by omega)
                                    · skip
                                      replace h497 : LxP (m496.1 7) (m496.1 8) (m496.1 9) (m408.1 6) (m496.1 10) := h497
                                      rewrite [(show (m408.1 6) = (m.1 6) from ((fr1 Fm408 6 rfl).trans ((fr1 Fm291 6 rfl).trans ((fr1 Fm267 6 rfl).trans ((fr1 Fm250 6 rfl).trans ((fr1 Fm60 6 rfl).trans ((fr1 Fm44 6 rfl).trans ((fr1 Fm18 6 rfl).trans (fr1 Fm4 6 rfl)))))))))] at h497
                                      have hLx := h497
                                      clear h498
                                      replace h499 : (m408.1 8) ≤ (m496.1 8) := h499
                                      clear h500
                                      have hf513 : 1 ≤ (m496.1 10) := by omega
                                      clear q70a q70b q70 q71a q71b q71 ic62 ic63 ic64 ic65 ic67 ic68 g413 g414 g415 g416 g417 h409 h411 u420 u419 h421 h423 h459 h490 h492 h499
                                      refine T_gf 364 (.ref 221) rfl rfl rfl rfl rfl rfl ?_
                                      refine T_ld 365 (.int (i32 (m.1 26))) rfl (fun _ => rfl) ?_
                                      refine T_dup2 366 rfl (fun _ => rfl) ?_
                                      refine T_iald 367 51 (m60.2 51) rfl rfl rfl (by omega) (show (m.1 26) < (8 : Int) by omega) (show (m496.2 51) = (m60.2 51) from ((fr2 Fm496 51 rfl).trans ((fr2 Fm408 51 rfl).trans ((fr2 Fm291 51 rfl).trans ((fr2 Fm267 51 rfl).trans (fr2 Fm250 51 rfl)))))) ?_
                                      have e514 : 0 ≤ (m60.2 51) (m.1 26) ∧ (m60.2 51) (m.1 26) ≤ 4 := (Tm60.2.1 51) (m.1 26)
                                      refine T_ld 368 (.int (i32 1)) rfl (fun _ => rfl) ?_
                                      refine T_iadd 369 rfl rfl ?_
                                      have G515 : ∀ j, 0 ≤ (upI (m60.2 51) (m.1 26) (((m60.2 51) (m.1 26)) + 1)) j ∧ (upI (m60.2 51) (m.1 26) (((m60.2 51) (m.1 26)) + 1)) j ≤ 4 := upI_rg (Tm60.2.1 51) ⟨by omega, by omega⟩
                                      refine T_iast (a' := [(51, upI (m60.2 51) (m.1 26) (((m60.2 51) (m.1 26)) + 1))]) 370 51 (m60.2 51) rfl rfl rfl (by omega) (show (m.1 26) < (8 : Int) by omega) (show (m496.2 51) = (m60.2 51) from ((fr2 Fm496 51 rfl).trans ((fr2 Fm408 51 rfl).trans ((fr2 Fm291 51 rfl).trans ((fr2 Fm267 51 rfl).trans (fr2 Fm250 51 rfl)))))) rfl ?_
                                      refine T_gf 374 (.ref 222) rfl rfl rfl rfl rfl rfl ?_
                                      refine T_ld 375 (.int (i32 (m.1 26))) rfl (fun _ => rfl) ?_
                                      refine T_dup2 376 rfl (fun _ => rfl) ?_
                                      refine T_iald 377 52 (m60.2 52) rfl rfl rfl (by omega) (show (m.1 26) < (8 : Int) by omega) (show (m496.2 52) = (m60.2 52) from ((fr2 Fm496 52 rfl).trans ((fr2 Fm408 52 rfl).trans ((fr2 Fm291 52 rfl).trans ((fr2 Fm267 52 rfl).trans (fr2 Fm250 52 rfl)))))) ?_
                                      have e516 : 0 ≤ (m60.2 52) (m.1 26) ∧ (m60.2 52) (m.1 26) ≤ 4096 := (Tm60.2.1 52) (m.1 26)
                                      refine T_ld 379 (.int (i32 (m267.1 69))) rfl (fun _ => rfl) ?_
                                      refine T_iadd 380 rfl rfl ?_
                                      have G517 : ∀ j, 0 ≤ (upI (m60.2 52) (m.1 26) (((m60.2 52) (m.1 26)) + (m267.1 69))) j ∧ (upI (m60.2 52) (m.1 26) (((m60.2 52) (m.1 26)) + (m267.1 69))) j ≤ 4096 := upI_rg (Tm60.2.1 52) ⟨by omega, by omega⟩
                                      refine T_iast (a' := [(51, upI (m60.2 51) (m.1 26) (((m60.2 51) (m.1 26)) + 1)), (52, upI (m60.2 52) (m.1 26) (((m60.2 52) (m.1 26)) + (m267.1 69)))]) 381 52 (m60.2 52) rfl rfl rfl (by omega) (show (m.1 26) < (8 : Int) by omega) (show (m496.2 52) = (m60.2 52) from ((fr2 Fm496 52 rfl).trans ((fr2 Fm408 52 rfl).trans ((fr2 Fm291 52 rfl).trans ((fr2 Fm267 52 rfl).trans (fr2 Fm250 52 rfl)))))) rfl ?_
                                      refine T_goto 101 rfl (fun _ => rfl) ?_
                                      refine Tm_lv (a := [(0, .ref 189), (1, .int (i32 (m.1 26))), (2, .int (i32 1)), (3, .int (i32 0))]) rfl rfl ⟨rfl, rfl, rfl, rfl, trivial⟩ ?_
                                      exact ih75 1 0 (mO m496 [] [(51, upI (m60.2 51) (m.1 26) (((m60.2 51) (m.1 26)) + 1)), (52, upI (m60.2 52) (m.1 26) (((m60.2 52) (m.1 26)) + (m267.1 69)))]) ⟨by decide, by decide⟩ ⟨by decide, by decide⟩ (Ty_mO Tm496 rfl rfl trivial ⟨G515, G517, trivial⟩) (fr_m (fr_s Fm496 (fr_m (fr_s Fm408 (fr_m (fr_s Fm291 (fr_m (fr_s Fm267 (fr_m (fr_s Fm250 (fr_m (fr_s Fm60 (fr_m fr_0 rfl rfl) rfl rfl) rfl rfl) rfl rfl) rfl rfl) rfl rfl) rfl rfl) rfl rfl) rfl rfl) rfl rfl) rfl rfl) rfl rfl) rfl rfl) (show 0 ≤ (1 : Int) by omega) (show (1 : Int) ≤ 1 by omega) (show 0 ≤ (0 : Int) by omega) (show (0 : Int) ≤ 1 by omega) (show LxP (m496.1 7) (m496.1 8) (m496.1 9) (m.1 6) (m496.1 10) by first | exact hLx | exact (fun _ => hLx (by omega)) | (intro h9; exfalso; omega)) (show (1 : Int) = 0 ∨ (1 : Int) = 1 by omega) (show (0 : Int) = 0 ∨ (0 : Int) = 1 by omega) (show (upI (m60.2 52) (m.1 26) (((m60.2 52) (m.1 26)) + (m267.1 69))) (m.1 26) ≤ 1024 * (upI (m60.2 51) (m.1 26) (((m60.2 51) (m.1 26)) + 1)) (m.1 26) by rw [upI_s, upI_s]; omega) (fun (h : (m496.1 10) = 0) => absurd h (by omega)) (show 1000000 * (8 - (m496.1 10)) + (4000 - (m496.1 8)) < (n74 : Int) by omega)
                              · skip
                                replace h409 : LxP (m408.1 7) (m408.1 8) (m408.1 9) (m291.1 6) (m408.1 10) := h409
                                rewrite [(show (m291.1 6) = (m.1 6) from ((fr1 Fm291 6 rfl).trans ((fr1 Fm267 6 rfl).trans ((fr1 Fm250 6 rfl).trans ((fr1 Fm60 6 rfl).trans ((fr1 Fm44 6 rfl).trans ((fr1 Fm18 6 rfl).trans (fr1 Fm4 6 rfl))))))))] at h409
                                have hLx := h409
                                clear h410
                                replace h411 : (m291.1 8) ≤ (m408.1 8) := h411
                                clear h412
                                have hf518 : 1 ≤ (m408.1 10) := by omega
                                clear g298 g299 g300 h292 h304
                                refine T_gf 270 (.int (i32 (m408.1 10))) rfl rfl rfl rfl rfl rfl ?_
                                refine T_if 309 273 rfl rfl rfl (r32 (by omega) (by omega)) (fun (h519 : (m408.1 10) ≠ 0) => ?_) (fun (h519 : ¬ ((m408.1 10) ≠ 0)) => by exfalso; omega)
                                refine T_gf 313 (.ref 273) rfl rfl rfl rfl rfl rfl ?_
                                refine T_ld 315 (.int (i32 ((4 * (m.1 26)) + ((m60.2 51) (m.1 26))))) rfl (fun _ => rfl) ?_
                                refine T_ld 317 (.int (i32 (m291.1 7))) rfl (fun _ => rfl) ?_
                                have G520 : ∀ j, 0 ≤ (upI (m60.2 113) ((4 * (m.1 26)) + ((m60.2 51) (m.1 26))) (m291.1 7)) j ∧ (upI (m60.2 113) ((4 * (m.1 26)) + ((m60.2 51) (m.1 26))) (m291.1 7)) j ≤ 330 := upI_rg (Tm60.2.1 113) ⟨by omega, by omega⟩
                                refine T_iast (a' := [(113, upI (m60.2 113) ((4 * (m.1 26)) + ((m60.2 51) (m.1 26))) (m291.1 7))]) 318 113 (m60.2 113) rfl rfl rfl (by omega) (show ((4 * (m.1 26)) + ((m60.2 51) (m.1 26))) < (32 : Int) by omega) (show (m408.2 113) = (m60.2 113) from ((fr2 Fm408 113 rfl).trans ((fr2 Fm291 113 rfl).trans ((fr2 Fm267 113 rfl).trans (fr2 Fm250 113 rfl))))) rfl ?_
                                refine T_ld 319 (.int (i32 v58)) rfl (fun _ => rfl) ?_
                                have J335_522 : ∀ (s521 : Int), (R32 s521) → (1 ≤ s521) → (s521 ≤ 1) → TT w D pm_275 (335, [(0, .ref 189), (1, .int (i32 (m.1 26))), (2, .int (i32 v58)), (3, .int (i32 v59)), (4, .int (i32 ((4 * (m.1 26)) + ((m60.2 51) (m.1 26))))), (5, .int (i32 (m267.1 69))), (6, .int (i32 (m291.1 8))), (7, .int (i32 (m291.1 7)))], [.int (i32 s521)], (mhp (mO m408 [] [(113, upI (m60.2 113) ((4 * (m.1 26)) + ((m60.2 51) (m.1 26))) (m291.1 7))]) c, N), 0, 0) (Q_takeTable m c N) := by
                                  intro s521 q525 ic523 ic524
                                  obtain ⟨q525a, q525b⟩ := id q525
                                  refine T_sto 336 [(2, .int (i32 s521)), (0, .ref 189), (1, .int (i32 (m.1 26))), (3, .int (i32 v59)), (4, .int (i32 ((4 * (m.1 26)) + ((m60.2 51) (m.1 26))))), (5, .int (i32 (m267.1 69))), (6, .int (i32 (m291.1 8))), (7, .int (i32 (m291.1 7)))] rfl (fun _ => rfl) ?_
                                  refine T_ld 337 (.int (i32 v59)) rfl (fun _ => rfl) ?_
                                  have J353_529 : ∀ (s528 : Int), (R32 s528) → (0 ≤ s528) → (s528 ≤ 1) → TT w D pm_275 (353, [(0, .ref 189), (1, .int (i32 (m.1 26))), (2, .int (i32 s521)), (3, .int (i32 v59)), (4, .int (i32 ((4 * (m.1 26)) + ((m60.2 51) (m.1 26))))), (5, .int (i32 (m267.1 69))), (6, .int (i32 (m291.1 8))), (7, .int (i32 (m291.1 7)))], [.int (i32 s528)], (mhp (mO m408 [] [(113, upI (m60.2 113) ((4 * (m.1 26)) + ((m60.2 51) (m.1 26))) (m291.1 7))]) c, N), 0, 0) (Q_takeTable m c N) := by
                                    intro s528 q532 ic530 ic531
                                    obtain ⟨q532a, q532b⟩ := id q532
                                    refine T_sto 354 [(3, .int (i32 s528)), (0, .ref 189), (1, .int (i32 (m.1 26))), (2, .int (i32 s521)), (4, .int (i32 ((4 * (m.1 26)) + ((m60.2 51) (m.1 26))))), (5, .int (i32 (m267.1 69))), (6, .int (i32 (m291.1 8))), (7, .int (i32 (m291.1 7)))] rfl (fun _ => rfl) ?_
                                    refine T_ld 355 (.ref 189) rfl (fun _ => rfl) ?_
                                    refine T_ld 357 (.int (i32 59)) rfl (fun _ => rfl) ?_
                                    refine T_call 360 232 [.ref 189, .int (i32 59)] [] rfl (fun _ => rfl) rfl (d_need w (mO m408 [] [(113, upI (m60.2 113) ((4 * (m.1 26)) + ((m60.2 51) (m.1 26))) (m291.1 7))]) c N D (by omega) (Ty_mO Tm408 rfl rfl trivial ⟨G520, trivial⟩) 59 ⟨by decide, by decide⟩ (show 1 ≤ (59 : Int) by omega) (show LxP (m408.1 7) (m408.1 8) (m408.1 9) (m408.1 6) (m408.1 10) by rewrite [(show (m408.1 6) = (m.1 6) from ((fr1 Fm408 6 rfl).trans ((fr1 Fm291 6 rfl).trans ((fr1 Fm267 6 rfl).trans ((fr1 Fm250 6 rfl).trans ((fr1 Fm60 6 rfl).trans ((fr1 Fm44 6 rfl).trans ((fr1 Fm18 6 rfl).trans (fr1 Fm4 6 rfl)))))))))]; first | exact hLx | (intro h9; exfalso; omega) | (intro h9; have h8 := hLx (by omega); omega))) (fun rr535 k536 => ?_)
                                    obtain ⟨m537, Tm537, Fm537, h538, h539, h540, h541, rfl⟩ := k536
                                    refine ⟨_, _, rfl, ?_⟩
                                    refine T_nb (st' := []) rfl ?_
                                    have g542 : 0 ≤ m537.1 7 ∧ m537.1 7 ≤ 330 := Tm537.1 7
                                    have g543 : 0 ≤ m537.1 8 ∧ m537.1 8 ≤ 4000 := Tm537.1 8
                                    have g544 : 0 ≤ m537.1 9 ∧ m537.1 9 ≤ 4000 := Tm537.1 9
                                    have g545 : 0 ≤ m537.1 10 ∧ m537.1 10 ≤ 8 := Tm537.1 10
                                    have g546 : (-1) ≤ m537.1 11 ∧ m537.1 11 ≤ 4000 := Tm537.1 11
                                    replace h538 : LxP (m537.1 7) (m537.1 8) (m537.1 9) (m408.1 6) (m537.1 10) := h538
                                    rewrite [(show (m408.1 6) = (m.1 6) from ((fr1 Fm408 6 rfl).trans ((fr1 Fm291 6 rfl).trans ((fr1 Fm267 6 rfl).trans ((fr1 Fm250 6 rfl).trans ((fr1 Fm60 6 rfl).trans ((fr1 Fm44 6 rfl).trans ((fr1 Fm18 6 rfl).trans (fr1 Fm4 6 rfl)))))))))] at h538
                                    replace h539 : (m537.1 10) = 0 → (m408.1 10) = 0 ∧ (m408.1 7) = (59 : Int) := h539
                                    replace h540 : (m408.1 8) ≤ (m537.1 8) := h540
                                    replace h541 : (m537.1 10) = 0 → (m408.1 8) + (m408.1 9) ≤ (m537.1 8) := h541
                                    have hf547 : 1 ≤ (m537.1 10) := by omega
                                    clear h539
                                    clear h541
                                    have hLx := h538
                                    clear q70a q70b q70 q71a q71b q71 ic62 ic63 ic64 ic65 ic67 ic68 g413 g414 g415 g416 g417 h409 h411 hf518 h519 h540
                                    refine T_gf 364 (.ref 221) rfl rfl rfl rfl rfl rfl ?_
                                    refine T_ld 365 (.int (i32 (m.1 26))) rfl (fun _ => rfl) ?_
                                    refine T_dup2 366 rfl (fun _ => rfl) ?_
                                    refine T_iald 367 51 (m60.2 51) rfl rfl rfl (by omega) (show (m.1 26) < (8 : Int) by omega) (show (m537.2 51) = (m60.2 51) from ((fr2 Fm537 51 rfl).trans ((fr2 Fm408 51 rfl).trans ((fr2 Fm291 51 rfl).trans ((fr2 Fm267 51 rfl).trans (fr2 Fm250 51 rfl)))))) ?_
                                    have e548 : 0 ≤ (m60.2 51) (m.1 26) ∧ (m60.2 51) (m.1 26) ≤ 4 := (Tm60.2.1 51) (m.1 26)
                                    refine T_ld 368 (.int (i32 1)) rfl (fun _ => rfl) ?_
                                    refine T_iadd 369 rfl rfl ?_
                                    have G549 : ∀ j, 0 ≤ (upI (m60.2 51) (m.1 26) (((m60.2 51) (m.1 26)) + 1)) j ∧ (upI (m60.2 51) (m.1 26) (((m60.2 51) (m.1 26)) + 1)) j ≤ 4 := upI_rg (Tm60.2.1 51) ⟨by omega, by omega⟩
                                    refine T_iast (a' := [(51, upI (m60.2 51) (m.1 26) (((m60.2 51) (m.1 26)) + 1))]) 370 51 (m60.2 51) rfl rfl rfl (by omega) (show (m.1 26) < (8 : Int) by omega) (show (m537.2 51) = (m60.2 51) from ((fr2 Fm537 51 rfl).trans ((fr2 Fm408 51 rfl).trans ((fr2 Fm291 51 rfl).trans ((fr2 Fm267 51 rfl).trans (fr2 Fm250 51 rfl)))))) rfl ?_
                                    refine T_gf 374 (.ref 222) rfl rfl rfl rfl rfl rfl ?_
                                    refine T_ld 375 (.int (i32 (m.1 26))) rfl (fun _ => rfl) ?_
                                    refine T_dup2 376 rfl (fun _ => rfl) ?_
                                    refine T_iald 377 52 (m60.2 52) rfl rfl rfl (by omega) (show (m.1 26) < (8 : Int) by omega) (show (m537.2 52) = (m60.2 52) from ((fr2 Fm537 52 rfl).trans ((fr2 Fm408 52 rfl).trans ((fr2 Fm291 52 rfl).trans ((fr2 Fm267 52 rfl).trans (fr2 Fm250 52 rfl)))))) ?_
                                    have e550 : 0 ≤ (m60.2 52) (m.1 26) ∧ (m60.2 52) (m.1 26) ≤ 4096 := (Tm60.2.1 52) (m.1 26)
                                    refine T_ld 379 (.int (i32 (m267.1 69))) rfl (fun _ => rfl) ?_
                                    refine T_iadd 380 rfl rfl ?_
                                    have G551 : ∀ j, 0 ≤ (upI (m60.2 52) (m.1 26) (((m60.2 52) (m.1 26)) + (m267.1 69))) j ∧ (upI (m60.2 52) (m.1 26) (((m60.2 52) (m.1 26)) + (m267.1 69))) j ≤ 4096 := upI_rg (Tm60.2.1 52) ⟨by omega, by omega⟩
                                    refine T_iast (a' := [(51, upI (m60.2 51) (m.1 26) (((m60.2 51) (m.1 26)) + 1)), (52, upI (m60.2 52) (m.1 26) (((m60.2 52) (m.1 26)) + (m267.1 69)))]) 381 52 (m60.2 52) rfl rfl rfl (by omega) (show (m.1 26) < (8 : Int) by omega) (show (m537.2 52) = (m60.2 52) from ((fr2 Fm537 52 rfl).trans ((fr2 Fm408 52 rfl).trans ((fr2 Fm291 52 rfl).trans ((fr2 Fm267 52 rfl).trans (fr2 Fm250 52 rfl)))))) rfl ?_
                                    refine T_goto 101 rfl (fun _ => rfl) ?_
                                    refine Tm_lv (a := [(0, .ref 189), (1, .int (i32 (m.1 26))), (2, .int (i32 s521)), (3, .int (i32 s528))]) rfl rfl ⟨rfl, rfl, rfl, rfl, trivial⟩ ?_
                                    exact ih75 s521 s528 (mO m537 [] [(51, upI (m60.2 51) (m.1 26) (((m60.2 51) (m.1 26)) + 1)), (52, upI (m60.2 52) (m.1 26) (((m60.2 52) (m.1 26)) + (m267.1 69)))]) (r32 (by omega) (by omega)) (r32 (by omega) (by omega)) (Ty_mO Tm537 rfl rfl trivial ⟨G549, G551, trivial⟩) (fr_m (fr_s Fm537 (fr_m (fr_s Fm408 (fr_m (fr_s Fm291 (fr_m (fr_s Fm267 (fr_m (fr_s Fm250 (fr_m (fr_s Fm60 (fr_m fr_0 rfl rfl) rfl rfl) rfl rfl) rfl rfl) rfl rfl) rfl rfl) rfl rfl) rfl rfl) rfl rfl) rfl rfl) rfl rfl) rfl rfl) rfl rfl) (show 0 ≤ s521 by omega) (show s521 ≤ 1 by omega) (show 0 ≤ s528 by omega) (show s528 ≤ 1 by omega) (show LxP (m537.1 7) (m537.1 8) (m537.1 9) (m.1 6) (m537.1 10) by first | exact hLx | exact (fun _ => hLx (by omega)) | (intro h9; exfalso; omega)) (show s521 = 0 ∨ s521 = 1 by omega) (show s528 = 0 ∨ s528 = 1 by omega) (show (upI (m60.2 52) (m.1 26) (((m60.2 52) (m.1 26)) + (m267.1 69))) (m.1 26) ≤ 1024 * (upI (m60.2 51) (m.1 26) (((m60.2 51) (m.1 26)) + 1)) (m.1 26) by rw [upI_s, upI_s]; omega) (fun (h : (m537.1 10) = 0) => absurd h (by omega)) (show 1000000 * (8 - (m537.1 10)) + (4000 - (m537.1 8)) < (n74 : Int) by omega)
                                  refine T_if 348 340 rfl rfl rfl (r32 (by omega) (by omega)) (fun (h552 : v59 ≠ 0) => ?_) (fun (h552 : ¬ (v59 ≠ 0)) => ?_)
                                  · skip
                                    refine T_ld 349 (.int (i32 1)) rfl (fun _ => rfl) ?_
                                    refine T_goto 353 rfl (fun _ => rfl) ?_
                                    refine Tm_lv (a := [(0, .ref 189), (1, .int (i32 (m.1 26))), (2, .int (i32 s521)), (3, .int (i32 v59)), (4, .int (i32 ((4 * (m.1 26)) + ((m60.2 51) (m.1 26))))), (5, .int (i32 (m267.1 69))), (6, .int (i32 (m291.1 8))), (7, .int (i32 (m291.1 7)))]) rfl rfl ⟨rfl, rfl, rfl, rfl, rfl, rfl, rfl, rfl, trivial⟩ ?_
                                    exact J353_529 1 ⟨by decide, by decide⟩ (show 0 ≤ (1 : Int) by omega) (show (1 : Int) ≤ 1 by omega)
                                  · skip
                                    refine T_ld 342 (.int (i32 (m291.1 7))) rfl (fun _ => rfl) ?_
                                    refine T_ld 345 (.int (i32 314)) rfl (fun _ => rfl) ?_
                                    refine T_icmp 352 348 rfl rfl rfl (r32 (by omega) (by omega)) ⟨by decide, by decide⟩ (fun (h553 : (m291.1 7) ≠ 314) => ?_) (fun (h553 : ¬ ((m291.1 7) ≠ 314)) => by exfalso; omega)
                                    refine T_ld 353 (.int (i32 0)) rfl (fun _ => rfl) ?_
                                    refine Tm_lv (a := [(0, .ref 189), (1, .int (i32 (m.1 26))), (2, .int (i32 s521)), (3, .int (i32 v59)), (4, .int (i32 ((4 * (m.1 26)) + ((m60.2 51) (m.1 26))))), (5, .int (i32 (m267.1 69))), (6, .int (i32 (m291.1 8))), (7, .int (i32 (m291.1 7)))]) rfl rfl ⟨rfl, rfl, rfl, rfl, rfl, rfl, rfl, rfl, trivial⟩ ?_
                                    exact J353_529 0 ⟨by decide, by decide⟩ (show 0 ≤ (0 : Int) by omega) (show (0 : Int) ≤ 1 by omega)
                                refine T_if 330 322 rfl rfl rfl (r32 (by omega) (by omega)) (fun (h554 : v58 ≠ 0) => ?_) (fun (h554 : ¬ (v58 ≠ 0)) => ?_)
                                · skip
                                  refine T_ld 331 (.int (i32 1)) rfl (fun _ => rfl) ?_
                                  refine T_goto 335 rfl (fun _ => rfl) ?_
                                  refine Tm_lv (a := [(0, .ref 189), (1, .int (i32 (m.1 26))), (2, .int (i32 v58)), (3, .int (i32 v59)), (4, .int (i32 ((4 * (m.1 26)) + ((m60.2 51) (m.1 26))))), (5, .int (i32 (m267.1 69))), (6, .int (i32 (m291.1 8))), (7, .int (i32 (m291.1 7)))]) rfl rfl ⟨rfl, rfl, rfl, rfl, rfl, rfl, rfl, rfl, trivial⟩ ?_
                                  exact J335_522 1 ⟨by decide, by decide⟩ (show 1 ≤ (1 : Int) by omega) (show (1 : Int) ≤ 1 by omega)
                                · skip
                                  refine T_ld 324 (.int (i32 (m291.1 7))) rfl (fun _ => rfl) ?_
                                  refine T_ld 327 (.int (i32 313)) rfl (fun _ => rfl) ?_
                                  refine T_icmp 334 330 rfl rfl rfl (r32 (by omega) (by omega)) ⟨by decide, by decide⟩ (fun (h555 : (m291.1 7) ≠ 313) => by exfalso; omega) (fun (h555 : ¬ ((m291.1 7) ≠ 313)) => ?_)
                                  refine T_ld 331 (.int (i32 1)) rfl (fun _ => rfl) ?_
                                  refine T_goto 335 rfl (fun _ => rfl) ?_
                                  refine Tm_lv (a := [(0, .ref 189), (1, .int (i32 (m.1 26))), (2, .int (i32 v58)), (3, .int (i32 v59)), (4, .int (i32 ((4 * (m.1 26)) + ((m60.2 51) (m.1 26))))), (5, .int (i32 (m267.1 69))), (6, .int (i32 (m291.1 8))), (7, .int (i32 (m291.1 7)))]) rfl rfl ⟨rfl, rfl, rfl, rfl, rfl, rfl, rfl, rfl, trivial⟩ ?_
                                  exact J335_522 1 ⟨by decide, by decide⟩ (show 1 ≤ (1 : Int) by omega) (show (1 : Int) ≤ 1 by omega)
                            · skip
                              refine T_ld 252 (.int (i32 (m291.1 7))) rfl (fun _ => rfl) ?_
                              refine T_ld 255 (.int (i32 314)) rfl (fun _ => rfl) ?_
                              refine T_icmp 262 258 rfl rfl rfl (r32 (by omega) (by omega)) ⟨by decide, by decide⟩ (fun (h556 : (m291.1 7) = 314) => ?_) (fun (h556 : ¬ ((m291.1 7) = 314)) => ?_)
                              · skip
                                refine T_ld 263 (.ref 189) rfl (fun _ => rfl) ?_
                                refine T_call 266 212 [.ref 189] [] rfl (fun _ => rfl) rfl (d_next w (mO m291 [] []) c N D (by omega) Tm291 (show (m291.1 10) = 0 → (m291.1 8) + (m291.1 9) ≤ (m291.1 6) by rewrite [(show (m291.1 6) = (m.1 6) from ((fr1 Fm291 6 rfl).trans ((fr1 Fm267 6 rfl).trans ((fr1 Fm250 6 rfl).trans ((fr1 Fm60 6 rfl).trans ((fr1 Fm44 6 rfl).trans ((fr1 Fm18 6 rfl).trans (fr1 Fm4 6 rfl))))))))]; first | omega | (intro h9; have h8 := hLx h9; omega))) (fun rr557 k558 => ?_)
                                obtain ⟨m559, Tm559, Fm559, h560, h561, h562, h563, rfl⟩ := k558
                                refine ⟨_, _, rfl, ?_⟩
                                refine T_nb (st' := []) rfl ?_
                                have g564 : 0 ≤ m559.1 7 ∧ m559.1 7 ≤ 330 := Tm559.1 7
                                have g565 : 0 ≤ m559.1 8 ∧ m559.1 8 ≤ 4000 := Tm559.1 8
                                have g566 : 0 ≤ m559.1 9 ∧ m559.1 9 ≤ 4000 := Tm559.1 9
                                have g567 : 0 ≤ m559.1 10 ∧ m559.1 10 ≤ 8 := Tm559.1 10
                                have g568 : (-1) ≤ m559.1 11 ∧ m559.1 11 ≤ 4000 := Tm559.1 11
                                by_cases hf569 : (m559.1 10) = 0
                                · skip
                                  replace h560 : LxP (m559.1 7) (m559.1 8) (m559.1 9) (m291.1 6) (m559.1 10) := h560
                                  rewrite [(show (m291.1 6) = (m.1 6) from ((fr1 Fm291 6 rfl).trans ((fr1 Fm267 6 rfl).trans ((fr1 Fm250 6 rfl).trans ((fr1 Fm60 6 rfl).trans ((fr1 Fm44 6 rfl).trans ((fr1 Fm18 6 rfl).trans (fr1 Fm4 6 rfl))))))))] at h560
                                  have hLx := h560
                                  replace h561 : (m291.1 10) = 0 := h561 hf569
                                  replace h562 : (m291.1 8) ≤ (m559.1 8) := h562
                                  replace h563 : (m291.1 8) + (m291.1 9) ≤ (m559.1 8) := h563 hf569
                                  have u570 : (m60.1 8) + 1 ≤ (m559.1 8) := by omega
                                  have u571 : (m.1 8) + 1 ≤ (m559.1 8) := by omega
                                  have hAgC : agr (m.2 65) (m267.2 65) (m.1 28) := by first | exact agr_r _ _ | exact hAgC | exact agr_t hAgC hAg (by omega)
                                  clear g298 g299 g300 h292 h304 h561 h563
                                  refine T_gf 270 (.int (i32 (m559.1 10))) rfl rfl rfl rfl rfl rfl ?_
                                  refine T_if 309 273 rfl rfl rfl (r32 (by omega) (by omega)) (fun (h572 : (m559.1 10) ≠ 0) => by exfalso; omega) (fun (h572 : ¬ ((m559.1 10) ≠ 0)) => ?_)
                                  refine T_ld 275 (.int (i32 (m291.1 7))) rfl (fun _ => rfl) ?_
                                  refine T_ld 278 (.int (i32 313)) rfl (fun _ => rfl) ?_
                                  refine T_icmp 289 281 rfl rfl rfl (r32 (by omega) (by omega)) ⟨by decide, by decide⟩ (fun (h573 : (m291.1 7) ≠ 313) => ?_) (fun (h573 : ¬ ((m291.1 7) ≠ 313)) => by exfalso; omega)
                                  refine T_ld 291 (.int (i32 (m291.1 7))) rfl (fun _ => rfl) ?_
                                  refine T_ld 294 (.int (i32 314)) rfl (fun _ => rfl) ?_
                                  refine T_icmp 309 297 rfl rfl rfl (r32 (by omega) (by omega)) ⟨by decide, by decide⟩ (fun (h574 : (m291.1 7) ≠ 314) => by exfalso; omega) (fun (h574 : ¬ ((m291.1 7) ≠ 314)) => ?_)
                                  refine T_ld 298 (.int (i32 v58)) rfl (fun _ => rfl) ?_
                                  refine T_if 309 301 rfl rfl rfl (r32 (by omega) (by omega)) (fun (h575 : v58 = 0) => ?_) (fun (h575 : ¬ (v58 = 0)) => ?_)
                                  · skip
                                    refine T_gf 313 (.ref 273) rfl rfl rfl rfl rfl rfl ?_
                                    refine T_ld 315 (.int (i32 ((4 * (m.1 26)) + ((m60.2 51) (m.1 26))))) rfl (fun _ => rfl) ?_
                                    refine T_ld 317 (.int (i32 (m291.1 7))) rfl (fun _ => rfl) ?_
                                    have G576 : ∀ j, 0 ≤ (upI (m60.2 113) ((4 * (m.1 26)) + ((m60.2 51) (m.1 26))) (m291.1 7)) j ∧ (upI (m60.2 113) ((4 * (m.1 26)) + ((m60.2 51) (m.1 26))) (m291.1 7)) j ≤ 330 := upI_rg (Tm60.2.1 113) ⟨by omega, by omega⟩
                                    refine T_iast (a' := [(113, upI (m60.2 113) ((4 * (m.1 26)) + ((m60.2 51) (m.1 26))) (m291.1 7))]) 318 113 (m60.2 113) rfl rfl rfl (by omega) (show ((4 * (m.1 26)) + ((m60.2 51) (m.1 26))) < (32 : Int) by omega) (show (m559.2 113) = (m60.2 113) from ((fr2 Fm559 113 rfl).trans ((fr2 Fm291 113 rfl).trans ((fr2 Fm267 113 rfl).trans (fr2 Fm250 113 rfl))))) rfl ?_
                                    refine T_ld 319 (.int (i32 v58)) rfl (fun _ => rfl) ?_
                                    refine T_if 330 322 rfl rfl rfl (r32 (by omega) (by omega)) (fun (h577 : v58 ≠ 0) => by exfalso; omega) (fun (h577 : ¬ (v58 ≠ 0)) => ?_)
                                    refine T_ld 324 (.int (i32 (m291.1 7))) rfl (fun _ => rfl) ?_
                                    refine T_ld 327 (.int (i32 313)) rfl (fun _ => rfl) ?_
                                    refine T_icmp 334 330 rfl rfl rfl (r32 (by omega) (by omega)) ⟨by decide, by decide⟩ (fun (h578 : (m291.1 7) ≠ 313) => ?_) (fun (h578 : ¬ ((m291.1 7) ≠ 313)) => by exfalso; omega)
                                    refine T_ld 335 (.int (i32 0)) rfl (fun _ => rfl) ?_
                                    refine T_sto 336 [(2, .int (i32 0)), (7, .int (i32 (m291.1 7))), (6, .int (i32 (m291.1 8))), (5, .int (i32 (m267.1 69))), (4, .int (i32 ((4 * (m.1 26)) + ((m60.2 51) (m.1 26))))), (0, .ref 189), (1, .int (i32 (m.1 26))), (3, .int (i32 v59))] rfl (fun _ => rfl) ?_
                                    refine T_ld 337 (.int (i32 v59)) rfl (fun _ => rfl) ?_
                                    have J353_580 : ∀ (s579 : Int), (R32 s579) → (1 ≤ s579) → (s579 ≤ 1) → TT w D pm_275 (353, [(0, .ref 189), (1, .int (i32 (m.1 26))), (2, .int (i32 0)), (3, .int (i32 v59)), (4, .int (i32 ((4 * (m.1 26)) + ((m60.2 51) (m.1 26))))), (5, .int (i32 (m267.1 69))), (6, .int (i32 (m291.1 8))), (7, .int (i32 (m291.1 7)))], [.int (i32 s579)], (mhp (mO m559 [] [(113, upI (m60.2 113) ((4 * (m.1 26)) + ((m60.2 51) (m.1 26))) (m291.1 7))]) c, N), 0, 0) (Q_takeTable m c N) := by
                                      intro s579 q583 ic581 ic582
                                      obtain ⟨q583a, q583b⟩ := id q583
                                      refine T_sto 354 [(3, .int (i32 s579)), (0, .ref 189), (1, .int (i32 (m.1 26))), (2, .int (i32 0)), (4, .int (i32 ((4 * (m.1 26)) + ((m60.2 51) (m.1 26))))), (5, .int (i32 (m267.1 69))), (6, .int (i32 (m291.1 8))), (7, .int (i32 (m291.1 7)))] rfl (fun _ => rfl) ?_
                                      refine T_ld 355 (.ref 189) rfl (fun _ => rfl) ?_
                                      refine T_ld 357 (.int (i32 59)) rfl (fun _ => rfl) ?_
                                      refine T_call 360 232 [.ref 189, .int (i32 59)] [] rfl (fun _ => rfl) rfl (d_need w (mO m559 [] [(113, upI (m60.2 113) ((4 * (m.1 26)) + ((m60.2 51) (m.1 26))) (m291.1 7))]) c N D (by omega) (Ty_mO Tm559 rfl rfl trivial ⟨G576, trivial⟩) 59 ⟨by decide, by decide⟩ (show 1 ≤ (59 : Int) by omega) (show LxP (m559.1 7) (m559.1 8) (m559.1 9) (m559.1 6) (m559.1 10) by rewrite [(show (m559.1 6) = (m.1 6) from ((fr1 Fm559 6 rfl).trans ((fr1 Fm291 6 rfl).trans ((fr1 Fm267 6 rfl).trans ((fr1 Fm250 6 rfl).trans ((fr1 Fm60 6 rfl).trans ((fr1 Fm44 6 rfl).trans ((fr1 Fm18 6 rfl).trans (fr1 Fm4 6 rfl)))))))))]; first | exact hLx | (intro h9; exfalso; omega) | (intro h9; have h8 := hLx (by omega); omega))) (fun rr586 k587 => ?_)
                                      obtain ⟨m588, Tm588, Fm588, h589, h590, h591, h592, rfl⟩ := k587
                                      refine ⟨_, _, rfl, ?_⟩
                                      refine T_nb (st' := []) rfl ?_
                                      have g593 : 0 ≤ m588.1 7 ∧ m588.1 7 ≤ 330 := Tm588.1 7
                                      have g594 : 0 ≤ m588.1 8 ∧ m588.1 8 ≤ 4000 := Tm588.1 8
                                      have g595 : 0 ≤ m588.1 9 ∧ m588.1 9 ≤ 4000 := Tm588.1 9
                                      have g596 : 0 ≤ m588.1 10 ∧ m588.1 10 ≤ 8 := Tm588.1 10
                                      have g597 : (-1) ≤ m588.1 11 ∧ m588.1 11 ≤ 4000 := Tm588.1 11
                                      by_cases hf598 : (m588.1 10) = 0
                                      · skip
                                        replace h589 : LxP (m588.1 7) (m588.1 8) (m588.1 9) (m559.1 6) (m588.1 10) := h589
                                        rewrite [(show (m559.1 6) = (m.1 6) from ((fr1 Fm559 6 rfl).trans ((fr1 Fm291 6 rfl).trans ((fr1 Fm267 6 rfl).trans ((fr1 Fm250 6 rfl).trans ((fr1 Fm60 6 rfl).trans ((fr1 Fm44 6 rfl).trans ((fr1 Fm18 6 rfl).trans (fr1 Fm4 6 rfl)))))))))] at h589
                                        have hLx := h589
                                        replace h590 : (m559.1 10) = 0 ∧ (m559.1 7) = (59 : Int) := h590 hf598
                                        replace h591 : (m559.1 8) ≤ (m588.1 8) := h591
                                        replace h592 : (m559.1 8) + (m559.1 9) ≤ (m588.1 8) := h592 hf598
                                        have u599 : (m60.1 8) + 1 ≤ (m588.1 8) := by omega
                                        have u600 : (m.1 8) + 1 ≤ (m588.1 8) := by omega
                                        have hAgC : agr (m.2 65) (m267.2 65) (m.1 28) := by first | exact agr_r _ _ | exact hAgC | exact agr_t hAgC hAg (by omega)
                                        clear q70a q70b q70 q71a q71b q71 ic62 ic63 ic64 ic65 ic67 ic68 g564 g565 g566 g567 g568 h560 h562 u571 u570 h572 h575 h577 h590 h591 h592
                                        refine T_gf 364 (.ref 221) rfl rfl rfl rfl rfl rfl ?_
                                        refine T_ld 365 (.int (i32 (m.1 26))) rfl (fun _ => rfl) ?_
                                        refine T_dup2 366 rfl (fun _ => rfl) ?_
                                        refine T_iald 367 51 (m60.2 51) rfl rfl rfl (by omega) (show (m.1 26) < (8 : Int) by omega) (show (m588.2 51) = (m60.2 51) from ((fr2 Fm588 51 rfl).trans ((fr2 Fm559 51 rfl).trans ((fr2 Fm291 51 rfl).trans ((fr2 Fm267 51 rfl).trans (fr2 Fm250 51 rfl)))))) ?_
                                        have e601 : 0 ≤ (m60.2 51) (m.1 26) ∧ (m60.2 51) (m.1 26) ≤ 4 := (Tm60.2.1 51) (m.1 26)
                                        refine T_ld 368 (.int (i32 1)) rfl (fun _ => rfl) ?_
                                        refine T_iadd 369 rfl rfl ?_
                                        have G602 : ∀ j, 0 ≤ (upI (m60.2 51) (m.1 26) (((m60.2 51) (m.1 26)) + 1)) j ∧ (upI (m60.2 51) (m.1 26) (((m60.2 51) (m.1 26)) + 1)) j ≤ 4 := upI_rg (Tm60.2.1 51) ⟨by omega, by omega⟩
                                        refine T_iast (a' := [(51, upI (m60.2 51) (m.1 26) (((m60.2 51) (m.1 26)) + 1))]) 370 51 (m60.2 51) rfl rfl rfl (by omega) (show (m.1 26) < (8 : Int) by omega) (show (m588.2 51) = (m60.2 51) from ((fr2 Fm588 51 rfl).trans ((fr2 Fm559 51 rfl).trans ((fr2 Fm291 51 rfl).trans ((fr2 Fm267 51 rfl).trans (fr2 Fm250 51 rfl)))))) rfl ?_
                                        refine T_gf 374 (.ref 222) rfl rfl rfl rfl rfl rfl ?_
                                        refine T_ld 375 (.int (i32 (m.1 26))) rfl (fun _ => rfl) ?_
                                        refine T_dup2 376 rfl (fun _ => rfl) ?_
                                        refine T_iald 377 52 (m60.2 52) rfl rfl rfl (by omega) (show (m.1 26) < (8 : Int) by omega) (show (m588.2 52) = (m60.2 52) from ((fr2 Fm588 52 rfl).trans ((fr2 Fm559 52 rfl).trans ((fr2 Fm291 52 rfl).trans ((fr2 Fm267 52 rfl).trans (fr2 Fm250 52 rfl)))))) ?_
                                        have e603 : 0 ≤ (m60.2 52) (m.1 26) ∧ (m60.2 52) (m.1 26) ≤ 4096 := (Tm60.2.1 52) (m.1 26)
                                        refine T_ld 379 (.int (i32 (m267.1 69))) rfl (fun _ => rfl) ?_
                                        refine T_iadd 380 rfl rfl ?_
                                        have G604 : ∀ j, 0 ≤ (upI (m60.2 52) (m.1 26) (((m60.2 52) (m.1 26)) + (m267.1 69))) j ∧ (upI (m60.2 52) (m.1 26) (((m60.2 52) (m.1 26)) + (m267.1 69))) j ≤ 4096 := upI_rg (Tm60.2.1 52) ⟨by omega, by omega⟩
                                        refine T_iast (a' := [(51, upI (m60.2 51) (m.1 26) (((m60.2 51) (m.1 26)) + 1)), (52, upI (m60.2 52) (m.1 26) (((m60.2 52) (m.1 26)) + (m267.1 69)))]) 381 52 (m60.2 52) rfl rfl rfl (by omega) (show (m.1 26) < (8 : Int) by omega) (show (m588.2 52) = (m60.2 52) from ((fr2 Fm588 52 rfl).trans ((fr2 Fm559 52 rfl).trans ((fr2 Fm291 52 rfl).trans ((fr2 Fm267 52 rfl).trans (fr2 Fm250 52 rfl)))))) rfl ?_
                                        have hKY : ∀ k, 4 * (m.1 26) ≤ k → k < 4 * (m.1 26) + (upI (m60.2 51) (m.1 26) (((m60.2 51) (m.1 26)) + 1)) (m.1 26) → cdr (m267.2 65) (m267.1 28) ((upI (m60.2 110) ((4 * (m.1 26)) + ((m60.2 51) (m.1 26))) (m60.1 28)) k) ((upI (m60.2 111) ((4 * (m.1 26)) + ((m60.2 51) (m.1 26))) (m267.1 28)) k) := by
                                          intro k k0 k1
                                          rw [upI_s] at k1
                                          by_cases e : k = ((4 * (m.1 26)) + ((m60.2 51) (m.1 26)))
                                          · rw [e]
                                            exact hCd
                                          · rw [upI_n e, upI_n e]
                                            exact cdr_f (hKY k k0 (by omega)) hAgK (by omega)
                                        refine T_goto 101 rfl (fun _ => rfl) ?_
                                        refine Tm_lv (a := [(0, .ref 189), (1, .int (i32 (m.1 26))), (2, .int (i32 0)), (3, .int (i32 s579))]) rfl rfl ⟨rfl, rfl, rfl, rfl, trivial⟩ ?_
                                        exact ih75 0 s579 (mO m588 [] [(51, upI (m60.2 51) (m.1 26) (((m60.2 51) (m.1 26)) + 1)), (52, upI (m60.2 52) (m.1 26) (((m60.2 52) (m.1 26)) + (m267.1 69)))]) ⟨by decide, by decide⟩ (r32 (by omega) (by omega)) (Ty_mO Tm588 rfl rfl trivial ⟨G602, G604, trivial⟩) (fr_m (fr_s Fm588 (fr_m (fr_s Fm559 (fr_m (fr_s Fm291 (fr_m (fr_s Fm267 (fr_m (fr_s Fm250 (fr_m (fr_s Fm60 (fr_m fr_0 rfl rfl) rfl rfl) rfl rfl) rfl rfl) rfl rfl) rfl rfl) rfl rfl) rfl rfl) rfl rfl) rfl rfl) rfl rfl) rfl rfl) rfl rfl) (show 0 ≤ (0 : Int) by omega) (show (0 : Int) ≤ 1 by omega) (show 0 ≤ s579 by omega) (show s579 ≤ 1 by omega) (show LxP (m588.1 7) (m588.1 8) (m588.1 9) (m.1 6) (m588.1 10) by first | exact hLx | exact (fun _ => hLx (by omega)) | (intro h9; exfalso; omega)) (show (0 : Int) = 0 ∨ (0 : Int) = 1 by omega) (show s579 = 0 ∨ s579 = 1 by omega) (show (upI (m60.2 52) (m.1 26) (((m60.2 52) (m.1 26)) + (m267.1 69))) (m.1 26) ≤ 1024 * (upI (m60.2 51) (m.1 26) (((m60.2 51) (m.1 26)) + 1)) (m.1 26) by rw [upI_s, upI_s]; omega) (fun _ => ⟨(show (m.1 8) + 1 ≤ (m588.1 8) by omega), (show CN (m588.2 65) (m588.2 67) (m588.1 28) by rewrite [(show (m588.2 65) = (m267.2 65) from ((fr2 Fm588 65 rfl).trans ((fr2 Fm559 65 rfl).trans (fr2 Fm291 65 rfl)))), (show (m588.2 67) = (m267.2 67) from ((fr2 Fm588 67 rfl).trans ((fr2 Fm559 67 rfl).trans (fr2 Fm291 67 rfl)))), (show (m588.1 28) = (m267.1 28) from ((fr1 Fm588 28 rfl).trans ((fr1 Fm559 28 rfl).trans (fr1 Fm291 28 rfl))))]; exact hCN), (show (m.1 28) ≤ (m588.1 28) by rewrite [(show (m588.1 28) = (m267.1 28) from ((fr1 Fm588 28 rfl).trans ((fr1 Fm559 28 rfl).trans (fr1 Fm291 28 rfl))))]; omega), (show agr (m.2 65) (m588.2 65) (m.1 28) by rewrite [(show (m588.2 65) = (m267.2 65) from ((fr2 Fm588 65 rfl).trans ((fr2 Fm559 65 rfl).trans (fr2 Fm291 65 rfl))))]; exact hAgC), (show ∀ k, 4 * (m.1 26) ≤ k → k < 4 * (m.1 26) + (upI (m60.2 51) (m.1 26) (((m60.2 51) (m.1 26)) + 1)) (m.1 26) → cdr (m588.2 65) (m588.1 28) ((m588.2 110) k) ((m588.2 111) k) by rewrite [(show (m588.2 65) = (m267.2 65) from ((fr2 Fm588 65 rfl).trans ((fr2 Fm559 65 rfl).trans (fr2 Fm291 65 rfl)))), (show (m588.1 28) = (m267.1 28) from ((fr1 Fm588 28 rfl).trans ((fr1 Fm559 28 rfl).trans (fr1 Fm291 28 rfl)))), (show (m588.2 110) = (upI (m60.2 110) ((4 * (m.1 26)) + ((m60.2 51) (m.1 26))) (m60.1 28)) from ((fr2 Fm588 110 rfl).trans ((fr2 Fm559 110 rfl).trans ((fr2 Fm291 110 rfl).trans (fr2 Fm267 110 rfl))))), (show (m588.2 111) = (upI (m60.2 111) ((4 * (m.1 26)) + ((m60.2 51) (m.1 26))) (m267.1 28)) from ((fr2 Fm588 111 rfl).trans ((fr2 Fm559 111 rfl).trans (fr2 Fm291 111 rfl))))]; exact hKY), (show agr (m.2 51) (upI (m60.2 51) (m.1 26) (((m60.2 51) (m.1 26)) + 1)) (m.1 26) by first | exact hK1 | exact agr_t hK1 (agr_u (Int.le_refl _)) (Int.le_refl _)), (show agr (m.2 110) (m588.2 110) (4 * (m.1 26)) by rewrite [(show (m588.2 110) = (upI (m60.2 110) ((4 * (m.1 26)) + ((m60.2 51) (m.1 26))) (m60.1 28)) from ((fr2 Fm588 110 rfl).trans ((fr2 Fm559 110 rfl).trans ((fr2 Fm291 110 rfl).trans (fr2 Fm267 110 rfl)))))]; first | exact hK2 | exact agr_t hK2 (agr_u (by omega)) (Int.le_refl _)), (show agr (m.2 111) (m588.2 111) (4 * (m.1 26)) by rewrite [(show (m588.2 111) = (upI (m60.2 111) ((4 * (m.1 26)) + ((m60.2 51) (m.1 26))) (m267.1 28)) from ((fr2 Fm588 111 rfl).trans ((fr2 Fm559 111 rfl).trans (fr2 Fm291 111 rfl))))]; first | exact hK3 | exact agr_t hK3 (agr_u (by omega)) (Int.le_refl _))⟩) (show 1000000 * (8 - (m588.1 10)) + (4000 - (m588.1 8)) < (n74 : Int) by omega)
                                      · skip
                                        replace h589 : LxP (m588.1 7) (m588.1 8) (m588.1 9) (m559.1 6) (m588.1 10) := h589
                                        rewrite [(show (m559.1 6) = (m.1 6) from ((fr1 Fm559 6 rfl).trans ((fr1 Fm291 6 rfl).trans ((fr1 Fm267 6 rfl).trans ((fr1 Fm250 6 rfl).trans ((fr1 Fm60 6 rfl).trans ((fr1 Fm44 6 rfl).trans ((fr1 Fm18 6 rfl).trans (fr1 Fm4 6 rfl)))))))))] at h589
                                        have hLx := h589
                                        clear h590
                                        replace h591 : (m559.1 8) ≤ (m588.1 8) := h591
                                        clear h592
                                        have hf605 : 1 ≤ (m588.1 10) := by omega
                                        clear q70a q70b q70 q71a q71b q71 ic62 ic63 ic64 ic65 ic67 ic68 g564 g565 g566 g567 g568 h560 h562 u571 u570 h572 h575 h577 h591
                                        refine T_gf 364 (.ref 221) rfl rfl rfl rfl rfl rfl ?_
                                        refine T_ld 365 (.int (i32 (m.1 26))) rfl (fun _ => rfl) ?_
                                        refine T_dup2 366 rfl (fun _ => rfl) ?_
                                        refine T_iald 367 51 (m60.2 51) rfl rfl rfl (by omega) (show (m.1 26) < (8 : Int) by omega) (show (m588.2 51) = (m60.2 51) from ((fr2 Fm588 51 rfl).trans ((fr2 Fm559 51 rfl).trans ((fr2 Fm291 51 rfl).trans ((fr2 Fm267 51 rfl).trans (fr2 Fm250 51 rfl)))))) ?_
                                        have e606 : 0 ≤ (m60.2 51) (m.1 26) ∧ (m60.2 51) (m.1 26) ≤ 4 := (Tm60.2.1 51) (m.1 26)
                                        refine T_ld 368 (.int (i32 1)) rfl (fun _ => rfl) ?_
                                        refine T_iadd 369 rfl rfl ?_
                                        have G607 : ∀ j, 0 ≤ (upI (m60.2 51) (m.1 26) (((m60.2 51) (m.1 26)) + 1)) j ∧ (upI (m60.2 51) (m.1 26) (((m60.2 51) (m.1 26)) + 1)) j ≤ 4 := upI_rg (Tm60.2.1 51) ⟨by omega, by omega⟩
                                        refine T_iast (a' := [(51, upI (m60.2 51) (m.1 26) (((m60.2 51) (m.1 26)) + 1))]) 370 51 (m60.2 51) rfl rfl rfl (by omega) (show (m.1 26) < (8 : Int) by omega) (show (m588.2 51) = (m60.2 51) from ((fr2 Fm588 51 rfl).trans ((fr2 Fm559 51 rfl).trans ((fr2 Fm291 51 rfl).trans ((fr2 Fm267 51 rfl).trans (fr2 Fm250 51 rfl)))))) rfl ?_
                                        refine T_gf 374 (.ref 222) rfl rfl rfl rfl rfl rfl ?_
                                        refine T_ld 375 (.int (i32 (m.1 26))) rfl (fun _ => rfl) ?_
                                        refine T_dup2 376 rfl (fun _ => rfl) ?_
                                        refine T_iald 377 52 (m60.2 52) rfl rfl rfl (by omega) (show (m.1 26) < (8 : Int) by omega) (show (m588.2 52) = (m60.2 52) from ((fr2 Fm588 52 rfl).trans ((fr2 Fm559 52 rfl).trans ((fr2 Fm291 52 rfl).trans ((fr2 Fm267 52 rfl).trans (fr2 Fm250 52 rfl)))))) ?_
                                        have e608 : 0 ≤ (m60.2 52) (m.1 26) ∧ (m60.2 52) (m.1 26) ≤ 4096 := (Tm60.2.1 52) (m.1 26)
                                        refine T_ld 379 (.int (i32 (m267.1 69))) rfl (fun _ => rfl) ?_
                                        refine T_iadd 380 rfl rfl ?_
                                        have G609 : ∀ j, 0 ≤ (upI (m60.2 52) (m.1 26) (((m60.2 52) (m.1 26)) + (m267.1 69))) j ∧ (upI (m60.2 52) (m.1 26) (((m60.2 52) (m.1 26)) + (m267.1 69))) j ≤ 4096 := upI_rg (Tm60.2.1 52) ⟨by omega, by omega⟩
                                        refine T_iast (a' := [(51, upI (m60.2 51) (m.1 26) (((m60.2 51) (m.1 26)) + 1)), (52, upI (m60.2 52) (m.1 26) (((m60.2 52) (m.1 26)) + (m267.1 69)))]) 381 52 (m60.2 52) rfl rfl rfl (by omega) (show (m.1 26) < (8 : Int) by omega) (show (m588.2 52) = (m60.2 52) from ((fr2 Fm588 52 rfl).trans ((fr2 Fm559 52 rfl).trans ((fr2 Fm291 52 rfl).trans ((fr2 Fm267 52 rfl).trans (fr2 Fm250 52 rfl)))))) rfl ?_
                                        refine T_goto 101 rfl (fun _ => rfl) ?_
                                        refine Tm_lv (a := [(0, .ref 189), (1, .int (i32 (m.1 26))), (2, .int (i32 0)), (3, .int (i32 s579))]) rfl rfl ⟨rfl, rfl, rfl, rfl, trivial⟩ ?_
                                        exact ih75 0 s579 (mO m588 [] [(51, upI (m60.2 51) (m.1 26) (((m60.2 51) (m.1 26)) + 1)), (52, upI (m60.2 52) (m.1 26) (((m60.2 52) (m.1 26)) + (m267.1 69)))]) ⟨by decide, by decide⟩ (r32 (by omega) (by omega)) (Ty_mO Tm588 rfl rfl trivial ⟨G607, G609, trivial⟩) (fr_m (fr_s Fm588 (fr_m (fr_s Fm559 (fr_m (fr_s Fm291 (fr_m (fr_s Fm267 (fr_m (fr_s Fm250 (fr_m (fr_s Fm60 (fr_m fr_0 rfl rfl) rfl rfl) rfl rfl) rfl rfl) rfl rfl) rfl rfl) rfl rfl) rfl rfl) rfl rfl) rfl rfl) rfl rfl) rfl rfl) rfl rfl) (show 0 ≤ (0 : Int) by omega) (show (0 : Int) ≤ 1 by omega) (show 0 ≤ s579 by omega) (show s579 ≤ 1 by omega) (show LxP (m588.1 7) (m588.1 8) (m588.1 9) (m.1 6) (m588.1 10) by first | exact hLx | exact (fun _ => hLx (by omega)) | (intro h9; exfalso; omega)) (show (0 : Int) = 0 ∨ (0 : Int) = 1 by omega) (show s579 = 0 ∨ s579 = 1 by omega) (show (upI (m60.2 52) (m.1 26) (((m60.2 52) (m.1 26)) + (m267.1 69))) (m.1 26) ≤ 1024 * (upI (m60.2 51) (m.1 26) (((m60.2 51) (m.1 26)) + 1)) (m.1 26) by rw [upI_s, upI_s]; omega) (fun (h : (m588.1 10) = 0) => absurd h (by omega)) (show 1000000 * (8 - (m588.1 10)) + (4000 - (m588.1 8)) < (n74 : Int) by omega)
                                    refine T_if 348 340 rfl rfl rfl (r32 (by omega) (by omega)) (fun (h610 : v59 ≠ 0) => ?_) (fun (h610 : ¬ (v59 ≠ 0)) => ?_)
                                    · skip
                                      refine T_ld 349 (.int (i32 1)) rfl (fun _ => rfl) ?_
                                      refine T_goto 353 rfl (fun _ => rfl) ?_
                                      refine Tm_lv (a := [(0, .ref 189), (1, .int (i32 (m.1 26))), (2, .int (i32 0)), (3, .int (i32 v59)), (4, .int (i32 ((4 * (m.1 26)) + ((m60.2 51) (m.1 26))))), (5, .int (i32 (m267.1 69))), (6, .int (i32 (m291.1 8))), (7, .int (i32 (m291.1 7)))]) rfl rfl ⟨rfl, rfl, rfl, rfl, rfl, rfl, rfl, rfl, trivial⟩ ?_
                                      exact J353_580 1 ⟨by decide, by decide⟩ (show 1 ≤ (1 : Int) by omega) (show (1 : Int) ≤ 1 by omega)
                                    · skip
                                      refine T_ld 342 (.int (i32 (m291.1 7))) rfl (fun _ => rfl) ?_
                                      refine T_ld 345 (.int (i32 314)) rfl (fun _ => rfl) ?_
                                      refine T_icmp 352 348 rfl rfl rfl (r32 (by omega) (by omega)) ⟨by decide, by decide⟩ (fun (h611 : (m291.1 7) ≠ 314) => by exfalso; omega) (fun (h611 : ¬ ((m291.1 7) ≠ 314)) => ?_)
                                      refine T_ld 349 (.int (i32 1)) rfl (fun _ => rfl) ?_
                                      refine T_goto 353 rfl (fun _ => rfl) ?_
                                      refine Tm_lv (a := [(0, .ref 189), (1, .int (i32 (m.1 26))), (2, .int (i32 0)), (3, .int (i32 v59)), (4, .int (i32 ((4 * (m.1 26)) + ((m60.2 51) (m.1 26))))), (5, .int (i32 (m267.1 69))), (6, .int (i32 (m291.1 8))), (7, .int (i32 (m291.1 7)))]) rfl rfl ⟨rfl, rfl, rfl, rfl, rfl, rfl, rfl, rfl, trivial⟩ ?_
                                      exact J353_580 1 ⟨by decide, by decide⟩ (show 1 ≤ (1 : Int) by omega) (show (1 : Int) ≤ 1 by omega)
                                  · skip
                                    refine T_ld 302 (.ref 189) rfl (fun _ => rfl) ?_
                                    refine T_ld 304 (.int (i32 8)) rfl (fun _ => rfl) ?_
                                    refine T_ld 306 (.int (i32 (m291.1 8))) rfl (fun _ => rfl) ?_
                                    refine T_call 309 222 [.ref 189, .int (i32 8), .int (i32 (m291.1 8))] [] rfl (fun _ => rfl) rfl (d_wrong w (mO m559 [] []) c N D (by omega) Tm559 8 (m291.1 8) ⟨by decide, by decide⟩ (r32 (by omega) (by omega)) (show 1 ≤ (8 : Int) ∧ (8 : Int) ≤ 8 by omega) (show 0 ≤ (m291.1 8) ∧ (m291.1 8) ≤ 4000 by omega)) (fun rr612 k613 => ?_)
                                    obtain ⟨m614, Tm614, Fm614, h615, rfl⟩ := k613
                                    refine ⟨_, _, rfl, ?_⟩
                                    refine T_nb (st' := []) rfl ?_
                                    have g616 : 0 ≤ m614.1 10 ∧ m614.1 10 ≤ 8 := Tm614.1 10
                                    have g617 : (-1) ≤ m614.1 11 ∧ m614.1 11 ≤ 4000 := Tm614.1 11
                                    replace h615 : (0 < (m559.1 10) → (m614.1 10) = (m559.1 10) ∧ (m614.1 11) = (m559.1 11)) ∧ ((m559.1 10) ≤ 0 → (m614.1 10) = (8 : Int) ∧ (m614.1 11) = (m291.1 8)) := h615
                                    have hf618 : 1 ≤ (m614.1 10) := by omega
                                    clear g567 g568 h560 h572 h615
                                    refine T_gf 313 (.ref 273) rfl rfl rfl rfl rfl rfl ?_
                                    refine T_ld 315 (.int (i32 ((4 * (m.1 26)) + ((m60.2 51) (m.1 26))))) rfl (fun _ => rfl) ?_
                                    refine T_ld 317 (.int (i32 (m291.1 7))) rfl (fun _ => rfl) ?_
                                    have G619 : ∀ j, 0 ≤ (upI (m60.2 113) ((4 * (m.1 26)) + ((m60.2 51) (m.1 26))) (m291.1 7)) j ∧ (upI (m60.2 113) ((4 * (m.1 26)) + ((m60.2 51) (m.1 26))) (m291.1 7)) j ≤ 330 := upI_rg (Tm60.2.1 113) ⟨by omega, by omega⟩
                                    refine T_iast (a' := [(113, upI (m60.2 113) ((4 * (m.1 26)) + ((m60.2 51) (m.1 26))) (m291.1 7))]) 318 113 (m60.2 113) rfl rfl rfl (by omega) (show ((4 * (m.1 26)) + ((m60.2 51) (m.1 26))) < (32 : Int) by omega) (show (m614.2 113) = (m60.2 113) from ((fr2 Fm614 113 rfl).trans ((fr2 Fm559 113 rfl).trans ((fr2 Fm291 113 rfl).trans ((fr2 Fm267 113 rfl).trans (fr2 Fm250 113 rfl)))))) rfl ?_
                                    refine T_ld 319 (.int (i32 v58)) rfl (fun _ => rfl) ?_
                                    refine T_if 330 322 rfl rfl rfl (r32 (by omega) (by omega)) (fun (h620 : v58 ≠ 0) => ?_) (fun (h620 : ¬ (v58 ≠ 0)) => by exfalso; omega)
                                    refine T_ld 331 (.int (i32 1)) rfl (fun _ => rfl) ?_
                                    refine T_goto 335 rfl (fun _ => rfl) ?_
                                    refine T_sto 336 [(2, .int (i32 1)), (7, .int (i32 (m291.1 7))), (6, .int (i32 (m291.1 8))), (5, .int (i32 (m267.1 69))), (4, .int (i32 ((4 * (m.1 26)) + ((m60.2 51) (m.1 26))))), (0, .ref 189), (1, .int (i32 (m.1 26))), (3, .int (i32 v59))] rfl (fun _ => rfl) ?_
                                    refine T_ld 337 (.int (i32 v59)) rfl (fun _ => rfl) ?_
                                    have J353_622 : ∀ (s621 : Int), (R32 s621) → (1 ≤ s621) → (s621 ≤ 1) → TT w D pm_275 (353, [(0, .ref 189), (1, .int (i32 (m.1 26))), (2, .int (i32 1)), (3, .int (i32 v59)), (4, .int (i32 ((4 * (m.1 26)) + ((m60.2 51) (m.1 26))))), (5, .int (i32 (m267.1 69))), (6, .int (i32 (m291.1 8))), (7, .int (i32 (m291.1 7)))], [.int (i32 s621)], (mhp (mO m614 [] [(113, upI (m60.2 113) ((4 * (m.1 26)) + ((m60.2 51) (m.1 26))) (m291.1 7))]) c, N), 0, 0) (Q_takeTable m c N) := by
                                      intro s621 q625 ic623 ic624
                                      obtain ⟨q625a, q625b⟩ := id q625
                                      refine T_sto 354 [(3, .int (i32 s621)), (0, .ref 189), (1, .int (i32 (m.1 26))), (2, .int (i32 1)), (4, .int (i32 ((4 * (m.1 26)) + ((m60.2 51) (m.1 26))))), (5, .int (i32 (m267.1 69))), (6, .int (i32 (m291.1 8))), (7, .int (i32 (m291.1 7)))] rfl (fun _ => rfl) ?_
                                      refine T_ld 355 (.ref 189) rfl (fun _ => rfl) ?_
                                      refine T_ld 357 (.int (i32 59)) rfl (fun _ => rfl) ?_
                                      refine T_call 360 232 [.ref 189, .int (i32 59)] [] rfl (fun _ => rfl) rfl (d_need w (mO m614 [] [(113, upI (m60.2 113) ((4 * (m.1 26)) + ((m60.2 51) (m.1 26))) (m291.1 7))]) c N D (by omega) (Ty_mO Tm614 rfl rfl trivial ⟨G619, trivial⟩) 59 ⟨by decide, by decide⟩ (show 1 ≤ (59 : Int) by omega) (show LxP (m614.1 7) (m614.1 8) (m614.1 9) (m614.1 6) (m614.1 10) by rewrite [(show (m614.1 7) = (m559.1 7) from (fr1 Fm614 7 rfl)), (show (m614.1 8) = (m559.1 8) from (fr1 Fm614 8 rfl)), (show (m614.1 9) = (m559.1 9) from (fr1 Fm614 9 rfl)), (show (m614.1 6) = (m.1 6) from ((fr1 Fm614 6 rfl).trans ((fr1 Fm559 6 rfl).trans ((fr1 Fm291 6 rfl).trans ((fr1 Fm267 6 rfl).trans ((fr1 Fm250 6 rfl).trans ((fr1 Fm60 6 rfl).trans ((fr1 Fm44 6 rfl).trans ((fr1 Fm18 6 rfl).trans (fr1 Fm4 6 rfl))))))))))]; first | exact hLx | (intro h9; exfalso; omega) | (intro h9; have h8 := hLx (by omega); omega))) (fun rr628 k629 => ?_)
                                      obtain ⟨m630, Tm630, Fm630, h631, h632, h633, h634, rfl⟩ := k629
                                      refine ⟨_, _, rfl, ?_⟩
                                      refine T_nb (st' := []) rfl ?_
                                      have g635 : 0 ≤ m630.1 7 ∧ m630.1 7 ≤ 330 := Tm630.1 7
                                      have g636 : 0 ≤ m630.1 8 ∧ m630.1 8 ≤ 4000 := Tm630.1 8
                                      have g637 : 0 ≤ m630.1 9 ∧ m630.1 9 ≤ 4000 := Tm630.1 9
                                      have g638 : 0 ≤ m630.1 10 ∧ m630.1 10 ≤ 8 := Tm630.1 10
                                      have g639 : (-1) ≤ m630.1 11 ∧ m630.1 11 ≤ 4000 := Tm630.1 11
                                      replace h631 : LxP (m630.1 7) (m630.1 8) (m630.1 9) (m614.1 6) (m630.1 10) := h631
                                      rewrite [(show (m614.1 6) = (m.1 6) from ((fr1 Fm614 6 rfl).trans ((fr1 Fm559 6 rfl).trans ((fr1 Fm291 6 rfl).trans ((fr1 Fm267 6 rfl).trans ((fr1 Fm250 6 rfl).trans ((fr1 Fm60 6 rfl).trans ((fr1 Fm44 6 rfl).trans ((fr1 Fm18 6 rfl).trans (fr1 Fm4 6 rfl))))))))))] at h631
                                      replace h632 : (m630.1 10) = 0 → (m614.1 10) = 0 ∧ (m614.1 7) = (59 : Int) := h632
                                      rewrite [(show (m614.1 7) = (m559.1 7) from (fr1 Fm614 7 rfl))] at h632
                                      replace h633 : (m614.1 8) ≤ (m630.1 8) := h633
                                      rewrite [(show (m614.1 8) = (m559.1 8) from (fr1 Fm614 8 rfl))] at h633
                                      replace h634 : (m630.1 10) = 0 → (m614.1 8) + (m614.1 9) ≤ (m630.1 8) := h634
                                      rewrite [(show (m614.1 8) = (m559.1 8) from (fr1 Fm614 8 rfl)), (show (m614.1 9) = (m559.1 9) from (fr1 Fm614 9 rfl))] at h634
                                      have hf640 : 1 ≤ (m630.1 10) := by omega
                                      clear h632
                                      clear h634
                                      have hLx := h631
                                      clear q70a q70b q70 q71a q71b q71 ic62 ic63 ic64 ic65 ic67 ic68 g564 g565 g566 h562 u571 u570 h575 g616 g617 hf618 h620 h633
                                      refine T_gf 364 (.ref 221) rfl rfl rfl rfl rfl rfl ?_
                                      refine T_ld 365 (.int (i32 (m.1 26))) rfl (fun _ => rfl) ?_
                                      refine T_dup2 366 rfl (fun _ => rfl) ?_
                                      refine T_iald 367 51 (m60.2 51) rfl rfl rfl (by omega) (show (m.1 26) < (8 : Int) by omega) (show (m630.2 51) = (m60.2 51) from ((fr2 Fm630 51 rfl).trans ((fr2 Fm614 51 rfl).trans ((fr2 Fm559 51 rfl).trans ((fr2 Fm291 51 rfl).trans ((fr2 Fm267 51 rfl).trans (fr2 Fm250 51 rfl))))))) ?_
                                      have e641 : 0 ≤ (m60.2 51) (m.1 26) ∧ (m60.2 51) (m.1 26) ≤ 4 := (Tm60.2.1 51) (m.1 26)
                                      refine T_ld 368 (.int (i32 1)) rfl (fun _ => rfl) ?_
                                      refine T_iadd 369 rfl rfl ?_
                                      have G642 : ∀ j, 0 ≤ (upI (m60.2 51) (m.1 26) (((m60.2 51) (m.1 26)) + 1)) j ∧ (upI (m60.2 51) (m.1 26) (((m60.2 51) (m.1 26)) + 1)) j ≤ 4 := upI_rg (Tm60.2.1 51) ⟨by omega, by omega⟩
                                      refine T_iast (a' := [(51, upI (m60.2 51) (m.1 26) (((m60.2 51) (m.1 26)) + 1))]) 370 51 (m60.2 51) rfl rfl rfl (by omega) (show (m.1 26) < (8 : Int) by omega) (show (m630.2 51) = (m60.2 51) from ((fr2 Fm630 51 rfl).trans ((fr2 Fm614 51 rfl).trans ((fr2 Fm559 51 rfl).trans ((fr2 Fm291 51 rfl).trans ((fr2 Fm267 51 rfl).trans (fr2 Fm250 51 rfl))))))) rfl ?_
                                      refine T_gf 374 (.ref 222) rfl rfl rfl rfl rfl rfl ?_
                                      refine T_ld 375 (.int (i32 (m.1 26))) rfl (fun _ => rfl) ?_
                                      refine T_dup2 376 rfl (fun _ => rfl) ?_
                                      refine T_iald 377 52 (m60.2 52) rfl rfl rfl (by omega) (show (m.1 26) < (8 : Int) by omega) (show (m630.2 52) = (m60.2 52) from ((fr2 Fm630 52 rfl).trans ((fr2 Fm614 52 rfl).trans ((fr2 Fm559 52 rfl).trans ((fr2 Fm291 52 rfl).trans ((fr2 Fm267 52 rfl).trans (fr2 Fm250 52 rfl))))))) ?_
                                      have e643 : 0 ≤ (m60.2 52) (m.1 26) ∧ (m60.2 52) (m.1 26) ≤ 4096 := (Tm60.2.1 52) (m.1 26)
                                      refine T_ld 379 (.int (i32 (m267.1 69))) rfl (fun _ => rfl) ?_
                                      refine T_iadd 380 rfl rfl ?_
                                      have G644 : ∀ j, 0 ≤ (upI (m60.2 52) (m.1 26) (((m60.2 52) (m.1 26)) + (m267.1 69))) j ∧ (upI (m60.2 52) (m.1 26) (((m60.2 52) (m.1 26)) + (m267.1 69))) j ≤ 4096 := upI_rg (Tm60.2.1 52) ⟨by omega, by omega⟩
                                      refine T_iast (a' := [(51, upI (m60.2 51) (m.1 26) (((m60.2 51) (m.1 26)) + 1)), (52, upI (m60.2 52) (m.1 26) (((m60.2 52) (m.1 26)) + (m267.1 69)))]) 381 52 (m60.2 52) rfl rfl rfl (by omega) (show (m.1 26) < (8 : Int) by omega) (show (m630.2 52) = (m60.2 52) from ((fr2 Fm630 52 rfl).trans ((fr2 Fm614 52 rfl).trans ((fr2 Fm559 52 rfl).trans ((fr2 Fm291 52 rfl).trans ((fr2 Fm267 52 rfl).trans (fr2 Fm250 52 rfl))))))) rfl ?_
                                      refine T_goto 101 rfl (fun _ => rfl) ?_
                                      refine Tm_lv (a := [(0, .ref 189), (1, .int (i32 (m.1 26))), (2, .int (i32 1)), (3, .int (i32 s621))]) rfl rfl ⟨rfl, rfl, rfl, rfl, trivial⟩ ?_
                                      exact ih75 1 s621 (mO m630 [] [(51, upI (m60.2 51) (m.1 26) (((m60.2 51) (m.1 26)) + 1)), (52, upI (m60.2 52) (m.1 26) (((m60.2 52) (m.1 26)) + (m267.1 69)))]) ⟨by decide, by decide⟩ (r32 (by omega) (by omega)) (Ty_mO Tm630 rfl rfl trivial ⟨G642, G644, trivial⟩) (fr_m (fr_s Fm630 (fr_m (fr_s Fm614 (fr_m (fr_s Fm559 (fr_m (fr_s Fm291 (fr_m (fr_s Fm267 (fr_m (fr_s Fm250 (fr_m (fr_s Fm60 (fr_m fr_0 rfl rfl) rfl rfl) rfl rfl) rfl rfl) rfl rfl) rfl rfl) rfl rfl) rfl rfl) rfl rfl) rfl rfl) rfl rfl) rfl rfl) rfl rfl) rfl rfl) rfl rfl) (show 0 ≤ (1 : Int) by omega) (show (1 : Int) ≤ 1 by omega) (show 0 ≤ s621 by omega) (show s621 ≤ 1 by omega) (show LxP (m630.1 7) (m630.1 8) (m630.1 9) (m.1 6) (m630.1 10) by first | exact hLx | exact (fun _ => hLx (by omega)) | (intro h9; exfalso; omega)) (show (1 : Int) = 0 ∨ (1 : Int) = 1 by omega) (show s621 = 0 ∨ s621 = 1 by omega) (show (upI (m60.2 52) (m.1 26) (((m60.2 52) (m.1 26)) + (m267.1 69))) (m.1 26) ≤ 1024 * (upI (m60.2 51) (m.1 26) (((m60.2 51) (m.1 26)) + 1)) (m.1 26) by rw [upI_s, upI_s]; omega) (fun (h : (m630.1 10) = 0) => absurd h (by omega)) (show 1000000 * (8 - (m630.1 10)) + (4000 - (m630.1 8)) < (n74 : Int) by omega)
                                    refine T_if 348 340 rfl rfl rfl (r32 (by omega) (by omega)) (fun (h645 : v59 ≠ 0) => ?_) (fun (h645 : ¬ (v59 ≠ 0)) => ?_)
                                    · skip
                                      refine T_ld 349 (.int (i32 1)) rfl (fun _ => rfl) ?_
                                      refine T_goto 353 rfl (fun _ => rfl) ?_
                                      refine Tm_lv (a := [(0, .ref 189), (1, .int (i32 (m.1 26))), (2, .int (i32 1)), (3, .int (i32 v59)), (4, .int (i32 ((4 * (m.1 26)) + ((m60.2 51) (m.1 26))))), (5, .int (i32 (m267.1 69))), (6, .int (i32 (m291.1 8))), (7, .int (i32 (m291.1 7)))]) rfl rfl ⟨rfl, rfl, rfl, rfl, rfl, rfl, rfl, rfl, trivial⟩ ?_
                                      exact J353_622 1 ⟨by decide, by decide⟩ (show 1 ≤ (1 : Int) by omega) (show (1 : Int) ≤ 1 by omega)
                                    · skip
                                      refine T_ld 342 (.int (i32 (m291.1 7))) rfl (fun _ => rfl) ?_
                                      refine T_ld 345 (.int (i32 314)) rfl (fun _ => rfl) ?_
                                      refine T_icmp 352 348 rfl rfl rfl (r32 (by omega) (by omega)) ⟨by decide, by decide⟩ (fun (h646 : (m291.1 7) ≠ 314) => by exfalso; omega) (fun (h646 : ¬ ((m291.1 7) ≠ 314)) => ?_)
                                      refine T_ld 349 (.int (i32 1)) rfl (fun _ => rfl) ?_
                                      refine T_goto 353 rfl (fun _ => rfl) ?_
                                      refine Tm_lv (a := [(0, .ref 189), (1, .int (i32 (m.1 26))), (2, .int (i32 1)), (3, .int (i32 v59)), (4, .int (i32 ((4 * (m.1 26)) + ((m60.2 51) (m.1 26))))), (5, .int (i32 (m267.1 69))), (6, .int (i32 (m291.1 8))), (7, .int (i32 (m291.1 7)))]) rfl rfl ⟨rfl, rfl, rfl, rfl, rfl, rfl, rfl, rfl, trivial⟩ ?_
                                      exact J353_622 1 ⟨by decide, by decide⟩ (show 1 ≤ (1 : Int) by omega) (show (1 : Int) ≤ 1 by omega)
                                · skip
                                  replace h560 : LxP (m559.1 7) (m559.1 8) (m559.1 9) (m291.1 6) (m559.1 10) := h560
                                  rewrite [(show (m291.1 6) = (m.1 6) from ((fr1 Fm291 6 rfl).trans ((fr1 Fm267 6 rfl).trans ((fr1 Fm250 6 rfl).trans ((fr1 Fm60 6 rfl).trans ((fr1 Fm44 6 rfl).trans ((fr1 Fm18 6 rfl).trans (fr1 Fm4 6 rfl))))))))] at h560
                                  have hLx := h560
                                  clear h561
                                  replace h562 : (m291.1 8) ≤ (m559.1 8) := h562
                                  clear h563
                                  have hf647 : 1 ≤ (m559.1 10) := by omega
                                  clear g298 g299 g300 h292 h304
                                  refine T_gf 270 (.int (i32 (m559.1 10))) rfl rfl rfl rfl rfl rfl ?_
                                  refine T_if 309 273 rfl rfl rfl (r32 (by omega) (by omega)) (fun (h648 : (m559.1 10) ≠ 0) => ?_) (fun (h648 : ¬ ((m559.1 10) ≠ 0)) => by exfalso; omega)
                                  refine T_gf 313 (.ref 273) rfl rfl rfl rfl rfl rfl ?_
                                  refine T_ld 315 (.int (i32 ((4 * (m.1 26)) + ((m60.2 51) (m.1 26))))) rfl (fun _ => rfl) ?_
                                  refine T_ld 317 (.int (i32 (m291.1 7))) rfl (fun _ => rfl) ?_
                                  have G649 : ∀ j, 0 ≤ (upI (m60.2 113) ((4 * (m.1 26)) + ((m60.2 51) (m.1 26))) (m291.1 7)) j ∧ (upI (m60.2 113) ((4 * (m.1 26)) + ((m60.2 51) (m.1 26))) (m291.1 7)) j ≤ 330 := upI_rg (Tm60.2.1 113) ⟨by omega, by omega⟩
                                  refine T_iast (a' := [(113, upI (m60.2 113) ((4 * (m.1 26)) + ((m60.2 51) (m.1 26))) (m291.1 7))]) 318 113 (m60.2 113) rfl rfl rfl (by omega) (show ((4 * (m.1 26)) + ((m60.2 51) (m.1 26))) < (32 : Int) by omega) (show (m559.2 113) = (m60.2 113) from ((fr2 Fm559 113 rfl).trans ((fr2 Fm291 113 rfl).trans ((fr2 Fm267 113 rfl).trans (fr2 Fm250 113 rfl))))) rfl ?_
                                  refine T_ld 319 (.int (i32 v58)) rfl (fun _ => rfl) ?_
                                  have J335_651 : ∀ (s650 : Int), (R32 s650) → (0 ≤ s650) → (s650 ≤ 1) → TT w D pm_275 (335, [(0, .ref 189), (1, .int (i32 (m.1 26))), (2, .int (i32 v58)), (3, .int (i32 v59)), (4, .int (i32 ((4 * (m.1 26)) + ((m60.2 51) (m.1 26))))), (5, .int (i32 (m267.1 69))), (6, .int (i32 (m291.1 8))), (7, .int (i32 (m291.1 7)))], [.int (i32 s650)], (mhp (mO m559 [] [(113, upI (m60.2 113) ((4 * (m.1 26)) + ((m60.2 51) (m.1 26))) (m291.1 7))]) c, N), 0, 0) (Q_takeTable m c N) := by
                                    intro s650 q654 ic652 ic653
                                    obtain ⟨q654a, q654b⟩ := id q654
                                    refine T_sto 336 [(2, .int (i32 s650)), (0, .ref 189), (1, .int (i32 (m.1 26))), (3, .int (i32 v59)), (4, .int (i32 ((4 * (m.1 26)) + ((m60.2 51) (m.1 26))))), (5, .int (i32 (m267.1 69))), (6, .int (i32 (m291.1 8))), (7, .int (i32 (m291.1 7)))] rfl (fun _ => rfl) ?_
                                    refine T_ld 337 (.int (i32 v59)) rfl (fun _ => rfl) ?_
                                    have J353_658 : ∀ (s657 : Int), (R32 s657) → (1 ≤ s657) → (s657 ≤ 1) → TT w D pm_275 (353, [(0, .ref 189), (1, .int (i32 (m.1 26))), (2, .int (i32 s650)), (3, .int (i32 v59)), (4, .int (i32 ((4 * (m.1 26)) + ((m60.2 51) (m.1 26))))), (5, .int (i32 (m267.1 69))), (6, .int (i32 (m291.1 8))), (7, .int (i32 (m291.1 7)))], [.int (i32 s657)], (mhp (mO m559 [] [(113, upI (m60.2 113) ((4 * (m.1 26)) + ((m60.2 51) (m.1 26))) (m291.1 7))]) c, N), 0, 0) (Q_takeTable m c N) := by
                                      intro s657 q661 ic659 ic660
                                      obtain ⟨q661a, q661b⟩ := id q661
                                      refine T_sto 354 [(3, .int (i32 s657)), (0, .ref 189), (1, .int (i32 (m.1 26))), (2, .int (i32 s650)), (4, .int (i32 ((4 * (m.1 26)) + ((m60.2 51) (m.1 26))))), (5, .int (i32 (m267.1 69))), (6, .int (i32 (m291.1 8))), (7, .int (i32 (m291.1 7)))] rfl (fun _ => rfl) ?_
                                      refine T_ld 355 (.ref 189) rfl (fun _ => rfl) ?_
                                      refine T_ld 357 (.int (i32 59)) rfl (fun _ => rfl) ?_
                                      refine T_call 360 232 [.ref 189, .int (i32 59)] [] rfl (fun _ => rfl) rfl (d_need w (mO m559 [] [(113, upI (m60.2 113) ((4 * (m.1 26)) + ((m60.2 51) (m.1 26))) (m291.1 7))]) c N D (by omega) (Ty_mO Tm559 rfl rfl trivial ⟨G649, trivial⟩) 59 ⟨by decide, by decide⟩ (show 1 ≤ (59 : Int) by omega) (show LxP (m559.1 7) (m559.1 8) (m559.1 9) (m559.1 6) (m559.1 10) by rewrite [(show (m559.1 6) = (m.1 6) from ((fr1 Fm559 6 rfl).trans ((fr1 Fm291 6 rfl).trans ((fr1 Fm267 6 rfl).trans ((fr1 Fm250 6 rfl).trans ((fr1 Fm60 6 rfl).trans ((fr1 Fm44 6 rfl).trans ((fr1 Fm18 6 rfl).trans (fr1 Fm4 6 rfl)))))))))]; first | exact hLx | (intro h9; exfalso; omega) | (intro h9; have h8 := hLx (by omega); omega))) (fun rr664 k665 => ?_)
                                      obtain ⟨m666, Tm666, Fm666, h667, h668, h669, h670, rfl⟩ := k665
                                      refine ⟨_, _, rfl, ?_⟩
                                      refine T_nb (st' := []) rfl ?_
                                      have g671 : 0 ≤ m666.1 7 ∧ m666.1 7 ≤ 330 := Tm666.1 7
                                      have g672 : 0 ≤ m666.1 8 ∧ m666.1 8 ≤ 4000 := Tm666.1 8
                                      have g673 : 0 ≤ m666.1 9 ∧ m666.1 9 ≤ 4000 := Tm666.1 9
                                      have g674 : 0 ≤ m666.1 10 ∧ m666.1 10 ≤ 8 := Tm666.1 10
                                      have g675 : (-1) ≤ m666.1 11 ∧ m666.1 11 ≤ 4000 := Tm666.1 11
                                      replace h667 : LxP (m666.1 7) (m666.1 8) (m666.1 9) (m559.1 6) (m666.1 10) := h667
                                      rewrite [(show (m559.1 6) = (m.1 6) from ((fr1 Fm559 6 rfl).trans ((fr1 Fm291 6 rfl).trans ((fr1 Fm267 6 rfl).trans ((fr1 Fm250 6 rfl).trans ((fr1 Fm60 6 rfl).trans ((fr1 Fm44 6 rfl).trans ((fr1 Fm18 6 rfl).trans (fr1 Fm4 6 rfl)))))))))] at h667
                                      replace h668 : (m666.1 10) = 0 → (m559.1 10) = 0 ∧ (m559.1 7) = (59 : Int) := h668
                                      replace h669 : (m559.1 8) ≤ (m666.1 8) := h669
                                      replace h670 : (m666.1 10) = 0 → (m559.1 8) + (m559.1 9) ≤ (m666.1 8) := h670
                                      have hf676 : 1 ≤ (m666.1 10) := by omega
                                      clear h668
                                      clear h670
                                      have hLx := h667
                                      clear q70a q70b q70 q71a q71b q71 ic62 ic63 ic64 ic65 ic67 ic68 g564 g565 g566 g567 g568 h560 h562 hf647 h648 h669
                                      refine T_gf 364 (.ref 221) rfl rfl rfl rfl rfl rfl ?_
                                      refine T_ld 365 (.int (i32 (m.1 26))) rfl (fun _ => rfl) ?_
                                      refine T_dup2 366 rfl (fun _ => rfl) ?_
                                      refine T_iald 367 51 (m60.2 51) rfl rfl rfl (by omega) (show (m.1 26) < (8 : Int) by omega) (show (m666.2 51) = (m60.2 51) from ((fr2 Fm666 51 rfl).trans ((fr2 Fm559 51 rfl).trans ((fr2 Fm291 51 rfl).trans ((fr2 Fm267 51 rfl).trans (fr2 Fm250 51 rfl)))))) ?_
                                      have e677 : 0 ≤ (m60.2 51) (m.1 26) ∧ (m60.2 51) (m.1 26) ≤ 4 := (Tm60.2.1 51) (m.1 26)
                                      refine T_ld 368 (.int (i32 1)) rfl (fun _ => rfl) ?_
                                      refine T_iadd 369 rfl rfl ?_
                                      have G678 : ∀ j, 0 ≤ (upI (m60.2 51) (m.1 26) (((m60.2 51) (m.1 26)) + 1)) j ∧ (upI (m60.2 51) (m.1 26) (((m60.2 51) (m.1 26)) + 1)) j ≤ 4 := upI_rg (Tm60.2.1 51) ⟨by omega, by omega⟩
                                      refine T_iast (a' := [(51, upI (m60.2 51) (m.1 26) (((m60.2 51) (m.1 26)) + 1))]) 370 51 (m60.2 51) rfl rfl rfl (by omega) (show (m.1 26) < (8 : Int) by omega) (show (m666.2 51) = (m60.2 51) from ((fr2 Fm666 51 rfl).trans ((fr2 Fm559 51 rfl).trans ((fr2 Fm291 51 rfl).trans ((fr2 Fm267 51 rfl).trans (fr2 Fm250 51 rfl)))))) rfl ?_
                                      refine T_gf 374 (.ref 222) rfl rfl rfl rfl rfl rfl ?_
                                      refine T_ld 375 (.int (i32 (m.1 26))) rfl (fun _ => rfl) ?_
                                      refine T_dup2 376 rfl (fun _ => rfl) ?_
                                      refine T_iald 377 52 (m60.2 52) rfl rfl rfl (by omega) (show (m.1 26) < (8 : Int) by omega) (show (m666.2 52) = (m60.2 52) from ((fr2 Fm666 52 rfl).trans ((fr2 Fm559 52 rfl).trans ((fr2 Fm291 52 rfl).trans ((fr2 Fm267 52 rfl).trans (fr2 Fm250 52 rfl)))))) ?_
                                      have e679 : 0 ≤ (m60.2 52) (m.1 26) ∧ (m60.2 52) (m.1 26) ≤ 4096 := (Tm60.2.1 52) (m.1 26)
                                      refine T_ld 379 (.int (i32 (m267.1 69))) rfl (fun _ => rfl) ?_
                                      refine T_iadd 380 rfl rfl ?_
                                      have G680 : ∀ j, 0 ≤ (upI (m60.2 52) (m.1 26) (((m60.2 52) (m.1 26)) + (m267.1 69))) j ∧ (upI (m60.2 52) (m.1 26) (((m60.2 52) (m.1 26)) + (m267.1 69))) j ≤ 4096 := upI_rg (Tm60.2.1 52) ⟨by omega, by omega⟩
                                      refine T_iast (a' := [(51, upI (m60.2 51) (m.1 26) (((m60.2 51) (m.1 26)) + 1)), (52, upI (m60.2 52) (m.1 26) (((m60.2 52) (m.1 26)) + (m267.1 69)))]) 381 52 (m60.2 52) rfl rfl rfl (by omega) (show (m.1 26) < (8 : Int) by omega) (show (m666.2 52) = (m60.2 52) from ((fr2 Fm666 52 rfl).trans ((fr2 Fm559 52 rfl).trans ((fr2 Fm291 52 rfl).trans ((fr2 Fm267 52 rfl).trans (fr2 Fm250 52 rfl)))))) rfl ?_
                                      refine T_goto 101 rfl (fun _ => rfl) ?_
                                      refine Tm_lv (a := [(0, .ref 189), (1, .int (i32 (m.1 26))), (2, .int (i32 s650)), (3, .int (i32 s657))]) rfl rfl ⟨rfl, rfl, rfl, rfl, trivial⟩ ?_
                                      exact ih75 s650 s657 (mO m666 [] [(51, upI (m60.2 51) (m.1 26) (((m60.2 51) (m.1 26)) + 1)), (52, upI (m60.2 52) (m.1 26) (((m60.2 52) (m.1 26)) + (m267.1 69)))]) (r32 (by omega) (by omega)) (r32 (by omega) (by omega)) (Ty_mO Tm666 rfl rfl trivial ⟨G678, G680, trivial⟩) (fr_m (fr_s Fm666 (fr_m (fr_s Fm559 (fr_m (fr_s Fm291 (fr_m (fr_s Fm267 (fr_m (fr_s Fm250 (fr_m (fr_s Fm60 (fr_m fr_0 rfl rfl) rfl rfl) rfl rfl) rfl rfl) rfl rfl) rfl rfl) rfl rfl) rfl rfl) rfl rfl) rfl rfl) rfl rfl) rfl rfl) rfl rfl) (show 0 ≤ s650 by omega) (show s650 ≤ 1 by omega) (show 0 ≤ s657 by omega) (show s657 ≤ 1 by omega) (show LxP (m666.1 7) (m666.1 8) (m666.1 9) (m.1 6) (m666.1 10) by first | exact hLx | exact (fun _ => hLx (by omega)) | (intro h9; exfalso; omega)) (show s650 = 0 ∨ s650 = 1 by omega) (show s657 = 0 ∨ s657 = 1 by omega) (show (upI (m60.2 52) (m.1 26) (((m60.2 52) (m.1 26)) + (m267.1 69))) (m.1 26) ≤ 1024 * (upI (m60.2 51) (m.1 26) (((m60.2 51) (m.1 26)) + 1)) (m.1 26) by rw [upI_s, upI_s]; omega) (fun (h : (m666.1 10) = 0) => absurd h (by omega)) (show 1000000 * (8 - (m666.1 10)) + (4000 - (m666.1 8)) < (n74 : Int) by omega)
                                    refine T_if 348 340 rfl rfl rfl (r32 (by omega) (by omega)) (fun (h681 : v59 ≠ 0) => ?_) (fun (h681 : ¬ (v59 ≠ 0)) => ?_)
                                    · skip
                                      refine T_ld 349 (.int (i32 1)) rfl (fun _ => rfl) ?_
                                      refine T_goto 353 rfl (fun _ => rfl) ?_
                                      refine Tm_lv (a := [(0, .ref 189), (1, .int (i32 (m.1 26))), (2, .int (i32 s650)), (3, .int (i32 v59)), (4, .int (i32 ((4 * (m.1 26)) + ((m60.2 51) (m.1 26))))), (5, .int (i32 (m267.1 69))), (6, .int (i32 (m291.1 8))), (7, .int (i32 (m291.1 7)))]) rfl rfl ⟨rfl, rfl, rfl, rfl, rfl, rfl, rfl, rfl, trivial⟩ ?_
                                      exact J353_658 1 ⟨by decide, by decide⟩ (show 1 ≤ (1 : Int) by omega) (show (1 : Int) ≤ 1 by omega)
                                    · skip
                                      refine T_ld 342 (.int (i32 (m291.1 7))) rfl (fun _ => rfl) ?_
                                      refine T_ld 345 (.int (i32 314)) rfl (fun _ => rfl) ?_
                                      refine T_icmp 352 348 rfl rfl rfl (r32 (by omega) (by omega)) ⟨by decide, by decide⟩ (fun (h682 : (m291.1 7) ≠ 314) => by exfalso; omega) (fun (h682 : ¬ ((m291.1 7) ≠ 314)) => ?_)
                                      refine T_ld 349 (.int (i32 1)) rfl (fun _ => rfl) ?_
                                      refine T_goto 353 rfl (fun _ => rfl) ?_
                                      refine Tm_lv (a := [(0, .ref 189), (1, .int (i32 (m.1 26))), (2, .int (i32 s650)), (3, .int (i32 v59)), (4, .int (i32 ((4 * (m.1 26)) + ((m60.2 51) (m.1 26))))), (5, .int (i32 (m267.1 69))), (6, .int (i32 (m291.1 8))), (7, .int (i32 (m291.1 7)))]) rfl rfl ⟨rfl, rfl, rfl, rfl, rfl, rfl, rfl, rfl, trivial⟩ ?_
                                      exact J353_658 1 ⟨by decide, by decide⟩ (show 1 ≤ (1 : Int) by omega) (show (1 : Int) ≤ 1 by omega)
                                  refine T_if 330 322 rfl rfl rfl (r32 (by omega) (by omega)) (fun (h683 : v58 ≠ 0) => ?_) (fun (h683 : ¬ (v58 ≠ 0)) => ?_)
                                  · skip
                                    refine T_ld 331 (.int (i32 1)) rfl (fun _ => rfl) ?_
                                    refine T_goto 335 rfl (fun _ => rfl) ?_
                                    refine Tm_lv (a := [(0, .ref 189), (1, .int (i32 (m.1 26))), (2, .int (i32 v58)), (3, .int (i32 v59)), (4, .int (i32 ((4 * (m.1 26)) + ((m60.2 51) (m.1 26))))), (5, .int (i32 (m267.1 69))), (6, .int (i32 (m291.1 8))), (7, .int (i32 (m291.1 7)))]) rfl rfl ⟨rfl, rfl, rfl, rfl, rfl, rfl, rfl, rfl, trivial⟩ ?_
                                    exact J335_651 1 ⟨by decide, by decide⟩ (show 0 ≤ (1 : Int) by omega) (show (1 : Int) ≤ 1 by omega)
                                  · skip
                                    refine T_ld 324 (.int (i32 (m291.1 7))) rfl (fun _ => rfl) ?_
                                    refine T_ld 327 (.int (i32 313)) rfl (fun _ => rfl) ?_
                                    refine T_icmp 334 330 rfl rfl rfl (r32 (by omega) (by omega)) ⟨by decide, by decide⟩ (fun (h684 : (m291.1 7) ≠ 313) => ?_) (fun (h684 : ¬ ((m291.1 7) ≠ 313)) => by exfalso; omega)
                                    refine T_ld 335 (.int (i32 0)) rfl (fun _ => rfl) ?_
                                    refine Tm_lv (a := [(0, .ref 189), (1, .int (i32 (m.1 26))), (2, .int (i32 v58)), (3, .int (i32 v59)), (4, .int (i32 ((4 * (m.1 26)) + ((m60.2 51) (m.1 26))))), (5, .int (i32 (m267.1 69))), (6, .int (i32 (m291.1 8))), (7, .int (i32 (m291.1 7)))]) rfl rfl ⟨rfl, rfl, rfl, rfl, rfl, rfl, rfl, rfl, trivial⟩ ?_
                                    exact J335_651 0 ⟨by decide, by decide⟩ (show 0 ≤ (0 : Int) by omega) (show (0 : Int) ≤ 1 by omega)
                              · skip
                                refine T_ld 259 (.ref 189) rfl (fun _ => rfl) ?_
                                refine T_call 262 226 [.ref 189] [] rfl (fun _ => rfl) rfl (d_bad w (mO m291 [] []) c N D (by omega) Tm291 ) (fun rr685 k686 => ?_)
                                obtain ⟨m687, Tm687, Fm687, h688, rfl⟩ := k686
                                refine ⟨_, _, rfl, ?_⟩
                                refine T_nb (st' := []) rfl ?_
                                have g689 : 0 ≤ m687.1 10 ∧ m687.1 10 ≤ 8 := Tm687.1 10
                                have g690 : (-1) ≤ m687.1 11 ∧ m687.1 11 ≤ 4000 := Tm687.1 11
                                replace h688 : (0 < (m291.1 10) → (m687.1 10) = (m291.1 10) ∧ (m687.1 11) = (m291.1 11)) ∧ ((m291.1 10) ≤ 0 → (m687.1 10) = 1 ∧ (m687.1 11) = (m291.1 8)) := h688
                                have hf691 : 1 ≤ (m687.1 10) := by omega
                                clear g299 g300 h292 h304 h688
                                refine T_ld 263 (.ref 189) rfl (fun _ => rfl) ?_
                                refine T_call 266 212 [.ref 189] [] rfl (fun _ => rfl) rfl (d_next w (mO m687 [] []) c N D (by omega) Tm687 (show (m687.1 10) = 0 → (m687.1 8) + (m687.1 9) ≤ (m687.1 6) by rewrite [(show (m687.1 8) = (m291.1 8) from (fr1 Fm687 8 rfl)), (show (m687.1 9) = (m291.1 9) from (fr1 Fm687 9 rfl)), (show (m687.1 6) = (m.1 6) from ((fr1 Fm687 6 rfl).trans ((fr1 Fm291 6 rfl).trans ((fr1 Fm267 6 rfl).trans ((fr1 Fm250 6 rfl).trans ((fr1 Fm60 6 rfl).trans ((fr1 Fm44 6 rfl).trans ((fr1 Fm18 6 rfl).trans (fr1 Fm4 6 rfl)))))))))]; first | omega | (intro h9; have h8 := hLx h9; omega))) (fun rr692 k693 => ?_)
                                obtain ⟨m694, Tm694, Fm694, h695, h696, h697, h698, rfl⟩ := k693
                                refine ⟨_, _, rfl, ?_⟩
                                refine T_nb (st' := []) rfl ?_
                                have g699 : 0 ≤ m694.1 7 ∧ m694.1 7 ≤ 330 := Tm694.1 7
                                have g700 : 0 ≤ m694.1 8 ∧ m694.1 8 ≤ 4000 := Tm694.1 8
                                have g701 : 0 ≤ m694.1 9 ∧ m694.1 9 ≤ 4000 := Tm694.1 9
                                have g702 : 0 ≤ m694.1 10 ∧ m694.1 10 ≤ 8 := Tm694.1 10
                                have g703 : (-1) ≤ m694.1 11 ∧ m694.1 11 ≤ 4000 := Tm694.1 11
                                replace h695 : LxP (m694.1 7) (m694.1 8) (m694.1 9) (m687.1 6) (m694.1 10) := h695
                                rewrite [(show (m687.1 6) = (m.1 6) from ((fr1 Fm687 6 rfl).trans ((fr1 Fm291 6 rfl).trans ((fr1 Fm267 6 rfl).trans ((fr1 Fm250 6 rfl).trans ((fr1 Fm60 6 rfl).trans ((fr1 Fm44 6 rfl).trans ((fr1 Fm18 6 rfl).trans (fr1 Fm4 6 rfl)))))))))] at h695
                                replace h696 : (m694.1 10) = 0 → (m687.1 10) = 0 := h696
                                replace h697 : (m687.1 8) ≤ (m694.1 8) := h697
                                rewrite [(show (m687.1 8) = (m291.1 8) from (fr1 Fm687 8 rfl))] at h697
                                replace h698 : (m694.1 10) = 0 → (m687.1 8) + (m687.1 9) ≤ (m694.1 8) := h698
                                rewrite [(show (m687.1 8) = (m291.1 8) from (fr1 Fm687 8 rfl)), (show (m687.1 9) = (m291.1 9) from (fr1 Fm687 9 rfl))] at h698
                                have hf704 : 1 ≤ (m694.1 10) := by omega
                                clear h696
                                clear h698
                                have hLx := h695
                                clear g298 g689 g690 hf691
                                refine T_gf 270 (.int (i32 (m694.1 10))) rfl rfl rfl rfl rfl rfl ?_
                                refine T_if 309 273 rfl rfl rfl (r32 (by omega) (by omega)) (fun (h705 : (m694.1 10) ≠ 0) => ?_) (fun (h705 : ¬ ((m694.1 10) ≠ 0)) => by exfalso; omega)
                                refine T_gf 313 (.ref 273) rfl rfl rfl rfl rfl rfl ?_
                                refine T_ld 315 (.int (i32 ((4 * (m.1 26)) + ((m60.2 51) (m.1 26))))) rfl (fun _ => rfl) ?_
                                refine T_ld 317 (.int (i32 (m291.1 7))) rfl (fun _ => rfl) ?_
                                have G706 : ∀ j, 0 ≤ (upI (m60.2 113) ((4 * (m.1 26)) + ((m60.2 51) (m.1 26))) (m291.1 7)) j ∧ (upI (m60.2 113) ((4 * (m.1 26)) + ((m60.2 51) (m.1 26))) (m291.1 7)) j ≤ 330 := upI_rg (Tm60.2.1 113) ⟨by omega, by omega⟩
                                refine T_iast (a' := [(113, upI (m60.2 113) ((4 * (m.1 26)) + ((m60.2 51) (m.1 26))) (m291.1 7))]) 318 113 (m60.2 113) rfl rfl rfl (by omega) (show ((4 * (m.1 26)) + ((m60.2 51) (m.1 26))) < (32 : Int) by omega) (show (m694.2 113) = (m60.2 113) from ((fr2 Fm694 113 rfl).trans ((fr2 Fm687 113 rfl).trans ((fr2 Fm291 113 rfl).trans ((fr2 Fm267 113 rfl).trans (fr2 Fm250 113 rfl)))))) rfl ?_
                                refine T_ld 319 (.int (i32 v58)) rfl (fun _ => rfl) ?_
                                have J335_708 : ∀ (s707 : Int), (R32 s707) → (0 ≤ s707) → (s707 ≤ 1) → TT w D pm_275 (335, [(0, .ref 189), (1, .int (i32 (m.1 26))), (2, .int (i32 v58)), (3, .int (i32 v59)), (4, .int (i32 ((4 * (m.1 26)) + ((m60.2 51) (m.1 26))))), (5, .int (i32 (m267.1 69))), (6, .int (i32 (m291.1 8))), (7, .int (i32 (m291.1 7)))], [.int (i32 s707)], (mhp (mO m694 [] [(113, upI (m60.2 113) ((4 * (m.1 26)) + ((m60.2 51) (m.1 26))) (m291.1 7))]) c, N), 0, 0) (Q_takeTable m c N) := by
                                  intro s707 q711 ic709 ic710
                                  obtain ⟨q711a, q711b⟩ := id q711
                                  refine T_sto 336 [(2, .int (i32 s707)), (0, .ref 189), (1, .int (i32 (m.1 26))), (3, .int (i32 v59)), (4, .int (i32 ((4 * (m.1 26)) + ((m60.2 51) (m.1 26))))), (5, .int (i32 (m267.1 69))), (6, .int (i32 (m291.1 8))), (7, .int (i32 (m291.1 7)))] rfl (fun _ => rfl) ?_
                                  refine T_ld 337 (.int (i32 v59)) rfl (fun _ => rfl) ?_
                                  have J353_715 : ∀ (s714 : Int), (R32 s714) → (0 ≤ s714) → (s714 ≤ 1) → TT w D pm_275 (353, [(0, .ref 189), (1, .int (i32 (m.1 26))), (2, .int (i32 s707)), (3, .int (i32 v59)), (4, .int (i32 ((4 * (m.1 26)) + ((m60.2 51) (m.1 26))))), (5, .int (i32 (m267.1 69))), (6, .int (i32 (m291.1 8))), (7, .int (i32 (m291.1 7)))], [.int (i32 s714)], (mhp (mO m694 [] [(113, upI (m60.2 113) ((4 * (m.1 26)) + ((m60.2 51) (m.1 26))) (m291.1 7))]) c, N), 0, 0) (Q_takeTable m c N) := by
                                    intro s714 q718 ic716 ic717
                                    obtain ⟨q718a, q718b⟩ := id q718
                                    refine T_sto 354 [(3, .int (i32 s714)), (0, .ref 189), (1, .int (i32 (m.1 26))), (2, .int (i32 s707)), (4, .int (i32 ((4 * (m.1 26)) + ((m60.2 51) (m.1 26))))), (5, .int (i32 (m267.1 69))), (6, .int (i32 (m291.1 8))), (7, .int (i32 (m291.1 7)))] rfl (fun _ => rfl) ?_
                                    refine T_ld 355 (.ref 189) rfl (fun _ => rfl) ?_
                                    refine T_ld 357 (.int (i32 59)) rfl (fun _ => rfl) ?_
                                    refine T_call 360 232 [.ref 189, .int (i32 59)] [] rfl (fun _ => rfl) rfl (d_need w (mO m694 [] [(113, upI (m60.2 113) ((4 * (m.1 26)) + ((m60.2 51) (m.1 26))) (m291.1 7))]) c N D (by omega) (Ty_mO Tm694 rfl rfl trivial ⟨G706, trivial⟩) 59 ⟨by decide, by decide⟩ (show 1 ≤ (59 : Int) by omega) (show LxP (m694.1 7) (m694.1 8) (m694.1 9) (m694.1 6) (m694.1 10) by rewrite [(show (m694.1 6) = (m.1 6) from ((fr1 Fm694 6 rfl).trans ((fr1 Fm687 6 rfl).trans ((fr1 Fm291 6 rfl).trans ((fr1 Fm267 6 rfl).trans ((fr1 Fm250 6 rfl).trans ((fr1 Fm60 6 rfl).trans ((fr1 Fm44 6 rfl).trans ((fr1 Fm18 6 rfl).trans (fr1 Fm4 6 rfl))))))))))]; first | exact hLx | (intro h9; exfalso; omega) | (intro h9; have h8 := hLx (by omega); omega))) (fun rr721 k722 => ?_)
                                    obtain ⟨m723, Tm723, Fm723, h724, h725, h726, h727, rfl⟩ := k722
                                    refine ⟨_, _, rfl, ?_⟩
                                    refine T_nb (st' := []) rfl ?_
                                    have g728 : 0 ≤ m723.1 7 ∧ m723.1 7 ≤ 330 := Tm723.1 7
                                    have g729 : 0 ≤ m723.1 8 ∧ m723.1 8 ≤ 4000 := Tm723.1 8
                                    have g730 : 0 ≤ m723.1 9 ∧ m723.1 9 ≤ 4000 := Tm723.1 9
                                    have g731 : 0 ≤ m723.1 10 ∧ m723.1 10 ≤ 8 := Tm723.1 10
                                    have g732 : (-1) ≤ m723.1 11 ∧ m723.1 11 ≤ 4000 := Tm723.1 11
                                    replace h724 : LxP (m723.1 7) (m723.1 8) (m723.1 9) (m694.1 6) (m723.1 10) := h724
                                    rewrite [(show (m694.1 6) = (m.1 6) from ((fr1 Fm694 6 rfl).trans ((fr1 Fm687 6 rfl).trans ((fr1 Fm291 6 rfl).trans ((fr1 Fm267 6 rfl).trans ((fr1 Fm250 6 rfl).trans ((fr1 Fm60 6 rfl).trans ((fr1 Fm44 6 rfl).trans ((fr1 Fm18 6 rfl).trans (fr1 Fm4 6 rfl))))))))))] at h724
                                    replace h725 : (m723.1 10) = 0 → (m694.1 10) = 0 ∧ (m694.1 7) = (59 : Int) := h725
                                    replace h726 : (m694.1 8) ≤ (m723.1 8) := h726
                                    replace h727 : (m723.1 10) = 0 → (m694.1 8) + (m694.1 9) ≤ (m723.1 8) := h727
                                    have hf733 : 1 ≤ (m723.1 10) := by omega
                                    clear h725
                                    clear h727
                                    have hLx := h724
                                    clear q70a q70b q70 q71a q71b q71 ic62 ic63 ic64 ic65 ic67 ic68 g699 g700 g701 g702 g703 hf704 h695 h697 h705 h726
                                    refine T_gf 364 (.ref 221) rfl rfl rfl rfl rfl rfl ?_
                                    refine T_ld 365 (.int (i32 (m.1 26))) rfl (fun _ => rfl) ?_
                                    refine T_dup2 366 rfl (fun _ => rfl) ?_
                                    refine T_iald 367 51 (m60.2 51) rfl rfl rfl (by omega) (show (m.1 26) < (8 : Int) by omega) (show (m723.2 51) = (m60.2 51) from ((fr2 Fm723 51 rfl).trans ((fr2 Fm694 51 rfl).trans ((fr2 Fm687 51 rfl).trans ((fr2 Fm291 51 rfl).trans ((fr2 Fm267 51 rfl).trans (fr2 Fm250 51 rfl))))))) ?_
                                    have e734 : 0 ≤ (m60.2 51) (m.1 26) ∧ (m60.2 51) (m.1 26) ≤ 4 := (Tm60.2.1 51) (m.1 26)
                                    refine T_ld 368 (.int (i32 1)) rfl (fun _ => rfl) ?_
                                    refine T_iadd 369 rfl rfl ?_
                                    have G735 : ∀ j, 0 ≤ (upI (m60.2 51) (m.1 26) (((m60.2 51) (m.1 26)) + 1)) j ∧ (upI (m60.2 51) (m.1 26) (((m60.2 51) (m.1 26)) + 1)) j ≤ 4 := upI_rg (Tm60.2.1 51) ⟨by omega, by omega⟩
                                    refine T_iast (a' := [(51, upI (m60.2 51) (m.1 26) (((m60.2 51) (m.1 26)) + 1))]) 370 51 (m60.2 51) rfl rfl rfl (by omega) (show (m.1 26) < (8 : Int) by omega) (show (m723.2 51) = (m60.2 51) from ((fr2 Fm723 51 rfl).trans ((fr2 Fm694 51 rfl).trans ((fr2 Fm687 51 rfl).trans ((fr2 Fm291 51 rfl).trans ((fr2 Fm267 51 rfl).trans (fr2 Fm250 51 rfl))))))) rfl ?_
                                    refine T_gf 374 (.ref 222) rfl rfl rfl rfl rfl rfl ?_
                                    refine T_ld 375 (.int (i32 (m.1 26))) rfl (fun _ => rfl) ?_
                                    refine T_dup2 376 rfl (fun _ => rfl) ?_
                                    refine T_iald 377 52 (m60.2 52) rfl rfl rfl (by omega) (show (m.1 26) < (8 : Int) by omega) (show (m723.2 52) = (m60.2 52) from ((fr2 Fm723 52 rfl).trans ((fr2 Fm694 52 rfl).trans ((fr2 Fm687 52 rfl).trans ((fr2 Fm291 52 rfl).trans ((fr2 Fm267 52 rfl).trans (fr2 Fm250 52 rfl))))))) ?_
                                    have e736 : 0 ≤ (m60.2 52) (m.1 26) ∧ (m60.2 52) (m.1 26) ≤ 4096 := (Tm60.2.1 52) (m.1 26)
                                    refine T_ld 379 (.int (i32 (m267.1 69))) rfl (fun _ => rfl) ?_
                                    refine T_iadd 380 rfl rfl ?_
                                    have G737 : ∀ j, 0 ≤ (upI (m60.2 52) (m.1 26) (((m60.2 52) (m.1 26)) + (m267.1 69))) j ∧ (upI (m60.2 52) (m.1 26) (((m60.2 52) (m.1 26)) + (m267.1 69))) j ≤ 4096 := upI_rg (Tm60.2.1 52) ⟨by omega, by omega⟩
                                    refine T_iast (a' := [(51, upI (m60.2 51) (m.1 26) (((m60.2 51) (m.1 26)) + 1)), (52, upI (m60.2 52) (m.1 26) (((m60.2 52) (m.1 26)) + (m267.1 69)))]) 381 52 (m60.2 52) rfl rfl rfl (by omega) (show (m.1 26) < (8 : Int) by omega) (show (m723.2 52) = (m60.2 52) from ((fr2 Fm723 52 rfl).trans ((fr2 Fm694 52 rfl).trans ((fr2 Fm687 52 rfl).trans ((fr2 Fm291 52 rfl).trans ((fr2 Fm267 52 rfl).trans (fr2 Fm250 52 rfl))))))) rfl ?_
                                    refine T_goto 101 rfl (fun _ => rfl) ?_
                                    refine Tm_lv (a := [(0, .ref 189), (1, .int (i32 (m.1 26))), (2, .int (i32 s707)), (3, .int (i32 s714))]) rfl rfl ⟨rfl, rfl, rfl, rfl, trivial⟩ ?_
                                    exact ih75 s707 s714 (mO m723 [] [(51, upI (m60.2 51) (m.1 26) (((m60.2 51) (m.1 26)) + 1)), (52, upI (m60.2 52) (m.1 26) (((m60.2 52) (m.1 26)) + (m267.1 69)))]) (r32 (by omega) (by omega)) (r32 (by omega) (by omega)) (Ty_mO Tm723 rfl rfl trivial ⟨G735, G737, trivial⟩) (fr_m (fr_s Fm723 (fr_m (fr_s Fm694 (fr_m (fr_s Fm687 (fr_m (fr_s Fm291 (fr_m (fr_s Fm267 (fr_m (fr_s Fm250 (fr_m (fr_s Fm60 (fr_m fr_0 rfl rfl) rfl rfl) rfl rfl) rfl rfl) rfl rfl) rfl rfl) rfl rfl) rfl rfl) rfl rfl) rfl rfl) rfl rfl) rfl rfl) rfl rfl) rfl rfl) rfl rfl) (show 0 ≤ s707 by omega) (show s707 ≤ 1 by omega) (show 0 ≤ s714 by omega) (show s714 ≤ 1 by omega) (show LxP (m723.1 7) (m723.1 8) (m723.1 9) (m.1 6) (m723.1 10) by first | exact hLx | exact (fun _ => hLx (by omega)) | (intro h9; exfalso; omega)) (show s707 = 0 ∨ s707 = 1 by omega) (show s714 = 0 ∨ s714 = 1 by omega) (show (upI (m60.2 52) (m.1 26) (((m60.2 52) (m.1 26)) + (m267.1 69))) (m.1 26) ≤ 1024 * (upI (m60.2 51) (m.1 26) (((m60.2 51) (m.1 26)) + 1)) (m.1 26) by rw [upI_s, upI_s]; omega) (fun (h : (m723.1 10) = 0) => absurd h (by omega)) (show 1000000 * (8 - (m723.1 10)) + (4000 - (m723.1 8)) < (n74 : Int) by omega)
                                  refine T_if 348 340 rfl rfl rfl (r32 (by omega) (by omega)) (fun (h738 : v59 ≠ 0) => ?_) (fun (h738 : ¬ (v59 ≠ 0)) => ?_)
                                  · skip
                                    refine T_ld 349 (.int (i32 1)) rfl (fun _ => rfl) ?_
                                    refine T_goto 353 rfl (fun _ => rfl) ?_
                                    refine Tm_lv (a := [(0, .ref 189), (1, .int (i32 (m.1 26))), (2, .int (i32 s707)), (3, .int (i32 v59)), (4, .int (i32 ((4 * (m.1 26)) + ((m60.2 51) (m.1 26))))), (5, .int (i32 (m267.1 69))), (6, .int (i32 (m291.1 8))), (7, .int (i32 (m291.1 7)))]) rfl rfl ⟨rfl, rfl, rfl, rfl, rfl, rfl, rfl, rfl, trivial⟩ ?_
                                    exact J353_715 1 ⟨by decide, by decide⟩ (show 0 ≤ (1 : Int) by omega) (show (1 : Int) ≤ 1 by omega)
                                  · skip
                                    refine T_ld 342 (.int (i32 (m291.1 7))) rfl (fun _ => rfl) ?_
                                    refine T_ld 345 (.int (i32 314)) rfl (fun _ => rfl) ?_
                                    refine T_icmp 352 348 rfl rfl rfl (r32 (by omega) (by omega)) ⟨by decide, by decide⟩ (fun (h739 : (m291.1 7) ≠ 314) => ?_) (fun (h739 : ¬ ((m291.1 7) ≠ 314)) => ?_)
                                    · skip
                                      refine T_ld 353 (.int (i32 0)) rfl (fun _ => rfl) ?_
                                      refine Tm_lv (a := [(0, .ref 189), (1, .int (i32 (m.1 26))), (2, .int (i32 s707)), (3, .int (i32 v59)), (4, .int (i32 ((4 * (m.1 26)) + ((m60.2 51) (m.1 26))))), (5, .int (i32 (m267.1 69))), (6, .int (i32 (m291.1 8))), (7, .int (i32 (m291.1 7)))]) rfl rfl ⟨rfl, rfl, rfl, rfl, rfl, rfl, rfl, rfl, trivial⟩ ?_
                                      exact J353_715 0 ⟨by decide, by decide⟩ (show 0 ≤ (0 : Int) by omega) (show (0 : Int) ≤ 1 by omega)
                                    · skip
                                      refine T_ld 349 (.int (i32 1)) rfl (fun _ => rfl) ?_
                                      refine T_goto 353 rfl (fun _ => rfl) ?_
                                      refine Tm_lv (a := [(0, .ref 189), (1, .int (i32 (m.1 26))), (2, .int (i32 s707)), (3, .int (i32 v59)), (4, .int (i32 ((4 * (m.1 26)) + ((m60.2 51) (m.1 26))))), (5, .int (i32 (m267.1 69))), (6, .int (i32 (m291.1 8))), (7, .int (i32 (m291.1 7)))]) rfl rfl ⟨rfl, rfl, rfl, rfl, rfl, rfl, rfl, rfl, trivial⟩ ?_
                                      exact J353_715 1 ⟨by decide, by decide⟩ (show 0 ≤ (1 : Int) by omega) (show (1 : Int) ≤ 1 by omega)
                                refine T_if 330 322 rfl rfl rfl (r32 (by omega) (by omega)) (fun (h740 : v58 ≠ 0) => ?_) (fun (h740 : ¬ (v58 ≠ 0)) => ?_)
                                · skip
                                  refine T_ld 331 (.int (i32 1)) rfl (fun _ => rfl) ?_
                                  refine T_goto 335 rfl (fun _ => rfl) ?_
                                  refine Tm_lv (a := [(0, .ref 189), (1, .int (i32 (m.1 26))), (2, .int (i32 v58)), (3, .int (i32 v59)), (4, .int (i32 ((4 * (m.1 26)) + ((m60.2 51) (m.1 26))))), (5, .int (i32 (m267.1 69))), (6, .int (i32 (m291.1 8))), (7, .int (i32 (m291.1 7)))]) rfl rfl ⟨rfl, rfl, rfl, rfl, rfl, rfl, rfl, rfl, trivial⟩ ?_
                                  exact J335_708 1 ⟨by decide, by decide⟩ (show 0 ≤ (1 : Int) by omega) (show (1 : Int) ≤ 1 by omega)
                                · skip
                                  refine T_ld 324 (.int (i32 (m291.1 7))) rfl (fun _ => rfl) ?_
                                  refine T_ld 327 (.int (i32 313)) rfl (fun _ => rfl) ?_
                                  refine T_icmp 334 330 rfl rfl rfl (r32 (by omega) (by omega)) ⟨by decide, by decide⟩ (fun (h741 : (m291.1 7) ≠ 313) => ?_) (fun (h741 : ¬ ((m291.1 7) ≠ 313)) => ?_)
                                  · skip
                                    refine T_ld 335 (.int (i32 0)) rfl (fun _ => rfl) ?_
                                    refine Tm_lv (a := [(0, .ref 189), (1, .int (i32 (m.1 26))), (2, .int (i32 v58)), (3, .int (i32 v59)), (4, .int (i32 ((4 * (m.1 26)) + ((m60.2 51) (m.1 26))))), (5, .int (i32 (m267.1 69))), (6, .int (i32 (m291.1 8))), (7, .int (i32 (m291.1 7)))]) rfl rfl ⟨rfl, rfl, rfl, rfl, rfl, rfl, rfl, rfl, trivial⟩ ?_
                                    exact J335_708 0 ⟨by decide, by decide⟩ (show 0 ≤ (0 : Int) by omega) (show (0 : Int) ≤ 1 by omega)
                                  · skip
                                    refine T_ld 331 (.int (i32 1)) rfl (fun _ => rfl) ?_
                                    refine T_goto 335 rfl (fun _ => rfl) ?_
                                    refine Tm_lv (a := [(0, .ref 189), (1, .int (i32 (m.1 26))), (2, .int (i32 v58)), (3, .int (i32 v59)), (4, .int (i32 ((4 * (m.1 26)) + ((m60.2 51) (m.1 26))))), (5, .int (i32 (m267.1 69))), (6, .int (i32 (m291.1 8))), (7, .int (i32 (m291.1 7)))]) rfl rfl ⟨rfl, rfl, rfl, rfl, rfl, rfl, rfl, rfl, trivial⟩ ?_
                                    exact J335_708 1 ⟨by decide, by decide⟩ (show 0 ≤ (1 : Int) by omega) (show (1 : Int) ≤ 1 by omega)
                        · skip
                          replace h292 : LxP (m291.1 7) (m291.1 8) (m291.1 9) (m267.1 6) (m291.1 10) := h292
                          rewrite [(show (m267.1 6) = (m.1 6) from ((fr1 Fm267 6 rfl).trans ((fr1 Fm250 6 rfl).trans ((fr1 Fm60 6 rfl).trans ((fr1 Fm44 6 rfl).trans ((fr1 Fm18 6 rfl).trans (fr1 Fm4 6 rfl)))))))] at h292
                          have hLx := h292
                          clear h293
                          replace h294 : (m267.1 8) ≤ (m291.1 8) := h294
                          clear h295
                          have hf742 : 1 ≤ (m291.1 10) := by omega
                          clear g271 g272 g273 g274 g275 h269 u286 u285 h294
                          refine T_gf 219 (.int (i32 (m291.1 8))) rfl rfl rfl rfl rfl rfl ?_
                          refine T_sto 221 [(6, .int (i32 (m291.1 8))), (5, .int (i32 (m267.1 69))), (4, .int (i32 ((4 * (m.1 26)) + ((m60.2 51) (m.1 26))))), (0, .ref 189), (1, .int (i32 (m.1 26))), (2, .int (i32 v58)), (3, .int (i32 v59))] rfl (fun _ => rfl) ?_
                          refine T_gf 225 (.int (i32 (m291.1 7))) rfl rfl rfl rfl rfl rfl ?_
                          refine T_sto 227 [(7, .int (i32 (m291.1 7))), (6, .int (i32 (m291.1 8))), (5, .int (i32 (m267.1 69))), (4, .int (i32 ((4 * (m.1 26)) + ((m60.2 51) (m.1 26))))), (0, .ref 189), (1, .int (i32 (m.1 26))), (2, .int (i32 v58)), (3, .int (i32 v59))] rfl (fun _ => rfl) ?_
                          refine T_gf 231 (.int (i32 (m291.1 10))) rfl rfl rfl rfl rfl rfl ?_
                          refine T_if 262 234 rfl rfl rfl (r32 (by omega) (by omega)) (fun (h743 : (m291.1 10) ≠ 0) => ?_) (fun (h743 : ¬ ((m291.1 10) ≠ 0)) => by exfalso; omega)
                          refine T_ld 263 (.ref 189) rfl (fun _ => rfl) ?_
                          refine T_call 266 212 [.ref 189] [] rfl (fun _ => rfl) rfl (d_next w (mO m291 [] []) c N D (by omega) Tm291 (show (m291.1 10) = 0 → (m291.1 8) + (m291.1 9) ≤ (m291.1 6) by rewrite [(show (m291.1 6) = (m.1 6) from ((fr1 Fm291 6 rfl).trans ((fr1 Fm267 6 rfl).trans ((fr1 Fm250 6 rfl).trans ((fr1 Fm60 6 rfl).trans ((fr1 Fm44 6 rfl).trans ((fr1 Fm18 6 rfl).trans (fr1 Fm4 6 rfl))))))))]; first | omega | (intro h9; have h8 := hLx h9; omega))) (fun rr744 k745 => ?_)
                          obtain ⟨m746, Tm746, Fm746, h747, h748, h749, h750, rfl⟩ := k745
                          refine ⟨_, _, rfl, ?_⟩
                          refine T_nb (st' := []) rfl ?_
                          have g751 : 0 ≤ m746.1 7 ∧ m746.1 7 ≤ 330 := Tm746.1 7
                          have g752 : 0 ≤ m746.1 8 ∧ m746.1 8 ≤ 4000 := Tm746.1 8
                          have g753 : 0 ≤ m746.1 9 ∧ m746.1 9 ≤ 4000 := Tm746.1 9
                          have g754 : 0 ≤ m746.1 10 ∧ m746.1 10 ≤ 8 := Tm746.1 10
                          have g755 : (-1) ≤ m746.1 11 ∧ m746.1 11 ≤ 4000 := Tm746.1 11
                          replace h747 : LxP (m746.1 7) (m746.1 8) (m746.1 9) (m291.1 6) (m746.1 10) := h747
                          rewrite [(show (m291.1 6) = (m.1 6) from ((fr1 Fm291 6 rfl).trans ((fr1 Fm267 6 rfl).trans ((fr1 Fm250 6 rfl).trans ((fr1 Fm60 6 rfl).trans ((fr1 Fm44 6 rfl).trans ((fr1 Fm18 6 rfl).trans (fr1 Fm4 6 rfl))))))))] at h747
                          replace h748 : (m746.1 10) = 0 → (m291.1 10) = 0 := h748
                          replace h749 : (m291.1 8) ≤ (m746.1 8) := h749
                          replace h750 : (m746.1 10) = 0 → (m291.1 8) + (m291.1 9) ≤ (m746.1 8) := h750
                          have hf756 : 1 ≤ (m746.1 10) := by omega
                          clear h748
                          clear h750
                          have hLx := h747
                          clear g298 g299 g300 h292 hf742 h743
                          refine T_gf 270 (.int (i32 (m746.1 10))) rfl rfl rfl rfl rfl rfl ?_
                          refine T_if 309 273 rfl rfl rfl (r32 (by omega) (by omega)) (fun (h757 : (m746.1 10) ≠ 0) => ?_) (fun (h757 : ¬ ((m746.1 10) ≠ 0)) => by exfalso; omega)
                          refine T_gf 313 (.ref 273) rfl rfl rfl rfl rfl rfl ?_
                          refine T_ld 315 (.int (i32 ((4 * (m.1 26)) + ((m60.2 51) (m.1 26))))) rfl (fun _ => rfl) ?_
                          refine T_ld 317 (.int (i32 (m291.1 7))) rfl (fun _ => rfl) ?_
                          have G758 : ∀ j, 0 ≤ (upI (m60.2 113) ((4 * (m.1 26)) + ((m60.2 51) (m.1 26))) (m291.1 7)) j ∧ (upI (m60.2 113) ((4 * (m.1 26)) + ((m60.2 51) (m.1 26))) (m291.1 7)) j ≤ 330 := upI_rg (Tm60.2.1 113) ⟨by omega, by omega⟩
                          refine T_iast (a' := [(113, upI (m60.2 113) ((4 * (m.1 26)) + ((m60.2 51) (m.1 26))) (m291.1 7))]) 318 113 (m60.2 113) rfl rfl rfl (by omega) (show ((4 * (m.1 26)) + ((m60.2 51) (m.1 26))) < (32 : Int) by omega) (show (m746.2 113) = (m60.2 113) from ((fr2 Fm746 113 rfl).trans ((fr2 Fm291 113 rfl).trans ((fr2 Fm267 113 rfl).trans (fr2 Fm250 113 rfl))))) rfl ?_
                          refine T_ld 319 (.int (i32 v58)) rfl (fun _ => rfl) ?_
                          have J335_760 : ∀ (s759 : Int), (R32 s759) → (0 ≤ s759) → (s759 ≤ 1) → TT w D pm_275 (335, [(0, .ref 189), (1, .int (i32 (m.1 26))), (2, .int (i32 v58)), (3, .int (i32 v59)), (4, .int (i32 ((4 * (m.1 26)) + ((m60.2 51) (m.1 26))))), (5, .int (i32 (m267.1 69))), (6, .int (i32 (m291.1 8))), (7, .int (i32 (m291.1 7)))], [.int (i32 s759)], (mhp (mO m746 [] [(113, upI (m60.2 113) ((4 * (m.1 26)) + ((m60.2 51) (m.1 26))) (m291.1 7))]) c, N), 0, 0) (Q_takeTable m c N) := by
                            intro s759 q763 ic761 ic762
                            obtain ⟨q763a, q763b⟩ := id q763
                            refine T_sto 336 [(2, .int (i32 s759)), (0, .ref 189), (1, .int (i32 (m.1 26))), (3, .int (i32 v59)), (4, .int (i32 ((4 * (m.1 26)) + ((m60.2 51) (m.1 26))))), (5, .int (i32 (m267.1 69))), (6, .int (i32 (m291.1 8))), (7, .int (i32 (m291.1 7)))] rfl (fun _ => rfl) ?_
                            refine T_ld 337 (.int (i32 v59)) rfl (fun _ => rfl) ?_
                            have J353_767 : ∀ (s766 : Int), (R32 s766) → (0 ≤ s766) → (s766 ≤ 1) → TT w D pm_275 (353, [(0, .ref 189), (1, .int (i32 (m.1 26))), (2, .int (i32 s759)), (3, .int (i32 v59)), (4, .int (i32 ((4 * (m.1 26)) + ((m60.2 51) (m.1 26))))), (5, .int (i32 (m267.1 69))), (6, .int (i32 (m291.1 8))), (7, .int (i32 (m291.1 7)))], [.int (i32 s766)], (mhp (mO m746 [] [(113, upI (m60.2 113) ((4 * (m.1 26)) + ((m60.2 51) (m.1 26))) (m291.1 7))]) c, N), 0, 0) (Q_takeTable m c N) := by
                              intro s766 q770 ic768 ic769
                              obtain ⟨q770a, q770b⟩ := id q770
                              refine T_sto 354 [(3, .int (i32 s766)), (0, .ref 189), (1, .int (i32 (m.1 26))), (2, .int (i32 s759)), (4, .int (i32 ((4 * (m.1 26)) + ((m60.2 51) (m.1 26))))), (5, .int (i32 (m267.1 69))), (6, .int (i32 (m291.1 8))), (7, .int (i32 (m291.1 7)))] rfl (fun _ => rfl) ?_
                              refine T_ld 355 (.ref 189) rfl (fun _ => rfl) ?_
                              refine T_ld 357 (.int (i32 59)) rfl (fun _ => rfl) ?_
                              refine T_call 360 232 [.ref 189, .int (i32 59)] [] rfl (fun _ => rfl) rfl (d_need w (mO m746 [] [(113, upI (m60.2 113) ((4 * (m.1 26)) + ((m60.2 51) (m.1 26))) (m291.1 7))]) c N D (by omega) (Ty_mO Tm746 rfl rfl trivial ⟨G758, trivial⟩) 59 ⟨by decide, by decide⟩ (show 1 ≤ (59 : Int) by omega) (show LxP (m746.1 7) (m746.1 8) (m746.1 9) (m746.1 6) (m746.1 10) by rewrite [(show (m746.1 6) = (m.1 6) from ((fr1 Fm746 6 rfl).trans ((fr1 Fm291 6 rfl).trans ((fr1 Fm267 6 rfl).trans ((fr1 Fm250 6 rfl).trans ((fr1 Fm60 6 rfl).trans ((fr1 Fm44 6 rfl).trans ((fr1 Fm18 6 rfl).trans (fr1 Fm4 6 rfl)))))))))]; first | exact hLx | (intro h9; exfalso; omega) | (intro h9; have h8 := hLx (by omega); omega))) (fun rr773 k774 => ?_)
                              obtain ⟨m775, Tm775, Fm775, h776, h777, h778, h779, rfl⟩ := k774
                              refine ⟨_, _, rfl, ?_⟩
                              refine T_nb (st' := []) rfl ?_
                              have g780 : 0 ≤ m775.1 7 ∧ m775.1 7 ≤ 330 := Tm775.1 7
                              have g781 : 0 ≤ m775.1 8 ∧ m775.1 8 ≤ 4000 := Tm775.1 8
                              have g782 : 0 ≤ m775.1 9 ∧ m775.1 9 ≤ 4000 := Tm775.1 9
                              have g783 : 0 ≤ m775.1 10 ∧ m775.1 10 ≤ 8 := Tm775.1 10
                              have g784 : (-1) ≤ m775.1 11 ∧ m775.1 11 ≤ 4000 := Tm775.1 11
                              replace h776 : LxP (m775.1 7) (m775.1 8) (m775.1 9) (m746.1 6) (m775.1 10) := h776
                              rewrite [(show (m746.1 6) = (m.1 6) from ((fr1 Fm746 6 rfl).trans ((fr1 Fm291 6 rfl).trans ((fr1 Fm267 6 rfl).trans ((fr1 Fm250 6 rfl).trans ((fr1 Fm60 6 rfl).trans ((fr1 Fm44 6 rfl).trans ((fr1 Fm18 6 rfl).trans (fr1 Fm4 6 rfl)))))))))] at h776
                              replace h777 : (m775.1 10) = 0 → (m746.1 10) = 0 ∧ (m746.1 7) = (59 : Int) := h777
                              replace h778 : (m746.1 8) ≤ (m775.1 8) := h778
                              replace h779 : (m775.1 10) = 0 → (m746.1 8) + (m746.1 9) ≤ (m775.1 8) := h779
                              have hf785 : 1 ≤ (m775.1 10) := by omega
                              clear h777
                              clear h779
                              have hLx := h776
                              clear q70a q70b q70 q71a q71b q71 ic62 ic63 ic64 ic65 ic67 ic68 g751 g752 g753 g754 g755 hf756 h747 h749 h757 h778
                              refine T_gf 364 (.ref 221) rfl rfl rfl rfl rfl rfl ?_
                              refine T_ld 365 (.int (i32 (m.1 26))) rfl (fun _ => rfl) ?_
                              refine T_dup2 366 rfl (fun _ => rfl) ?_
                              refine T_iald 367 51 (m60.2 51) rfl rfl rfl (by omega) (show (m.1 26) < (8 : Int) by omega) (show (m775.2 51) = (m60.2 51) from ((fr2 Fm775 51 rfl).trans ((fr2 Fm746 51 rfl).trans ((fr2 Fm291 51 rfl).trans ((fr2 Fm267 51 rfl).trans (fr2 Fm250 51 rfl)))))) ?_
                              have e786 : 0 ≤ (m60.2 51) (m.1 26) ∧ (m60.2 51) (m.1 26) ≤ 4 := (Tm60.2.1 51) (m.1 26)
                              refine T_ld 368 (.int (i32 1)) rfl (fun _ => rfl) ?_
                              refine T_iadd 369 rfl rfl ?_
                              have G787 : ∀ j, 0 ≤ (upI (m60.2 51) (m.1 26) (((m60.2 51) (m.1 26)) + 1)) j ∧ (upI (m60.2 51) (m.1 26) (((m60.2 51) (m.1 26)) + 1)) j ≤ 4 := upI_rg (Tm60.2.1 51) ⟨by omega, by omega⟩
                              refine T_iast (a' := [(51, upI (m60.2 51) (m.1 26) (((m60.2 51) (m.1 26)) + 1))]) 370 51 (m60.2 51) rfl rfl rfl (by omega) (show (m.1 26) < (8 : Int) by omega) (show (m775.2 51) = (m60.2 51) from ((fr2 Fm775 51 rfl).trans ((fr2 Fm746 51 rfl).trans ((fr2 Fm291 51 rfl).trans ((fr2 Fm267 51 rfl).trans (fr2 Fm250 51 rfl)))))) rfl ?_
                              refine T_gf 374 (.ref 222) rfl rfl rfl rfl rfl rfl ?_
                              refine T_ld 375 (.int (i32 (m.1 26))) rfl (fun _ => rfl) ?_
                              refine T_dup2 376 rfl (fun _ => rfl) ?_
                              refine T_iald 377 52 (m60.2 52) rfl rfl rfl (by omega) (show (m.1 26) < (8 : Int) by omega) (show (m775.2 52) = (m60.2 52) from ((fr2 Fm775 52 rfl).trans ((fr2 Fm746 52 rfl).trans ((fr2 Fm291 52 rfl).trans ((fr2 Fm267 52 rfl).trans (fr2 Fm250 52 rfl)))))) ?_
                              have e788 : 0 ≤ (m60.2 52) (m.1 26) ∧ (m60.2 52) (m.1 26) ≤ 4096 := (Tm60.2.1 52) (m.1 26)
                              refine T_ld 379 (.int (i32 (m267.1 69))) rfl (fun _ => rfl) ?_
                              refine T_iadd 380 rfl rfl ?_
                              have G789 : ∀ j, 0 ≤ (upI (m60.2 52) (m.1 26) (((m60.2 52) (m.1 26)) + (m267.1 69))) j ∧ (upI (m60.2 52) (m.1 26) (((m60.2 52) (m.1 26)) + (m267.1 69))) j ≤ 4096 := upI_rg (Tm60.2.1 52) ⟨by omega, by omega⟩
                              refine T_iast (a' := [(51, upI (m60.2 51) (m.1 26) (((m60.2 51) (m.1 26)) + 1)), (52, upI (m60.2 52) (m.1 26) (((m60.2 52) (m.1 26)) + (m267.1 69)))]) 381 52 (m60.2 52) rfl rfl rfl (by omega) (show (m.1 26) < (8 : Int) by omega) (show (m775.2 52) = (m60.2 52) from ((fr2 Fm775 52 rfl).trans ((fr2 Fm746 52 rfl).trans ((fr2 Fm291 52 rfl).trans ((fr2 Fm267 52 rfl).trans (fr2 Fm250 52 rfl)))))) rfl ?_
                              refine T_goto 101 rfl (fun _ => rfl) ?_
                              refine Tm_lv (a := [(0, .ref 189), (1, .int (i32 (m.1 26))), (2, .int (i32 s759)), (3, .int (i32 s766))]) rfl rfl ⟨rfl, rfl, rfl, rfl, trivial⟩ ?_
                              exact ih75 s759 s766 (mO m775 [] [(51, upI (m60.2 51) (m.1 26) (((m60.2 51) (m.1 26)) + 1)), (52, upI (m60.2 52) (m.1 26) (((m60.2 52) (m.1 26)) + (m267.1 69)))]) (r32 (by omega) (by omega)) (r32 (by omega) (by omega)) (Ty_mO Tm775 rfl rfl trivial ⟨G787, G789, trivial⟩) (fr_m (fr_s Fm775 (fr_m (fr_s Fm746 (fr_m (fr_s Fm291 (fr_m (fr_s Fm267 (fr_m (fr_s Fm250 (fr_m (fr_s Fm60 (fr_m fr_0 rfl rfl) rfl rfl) rfl rfl) rfl rfl) rfl rfl) rfl rfl) rfl rfl) rfl rfl) rfl rfl) rfl rfl) rfl rfl) rfl rfl) rfl rfl) (show 0 ≤ s759 by omega) (show s759 ≤ 1 by omega) (show 0 ≤ s766 by omega) (show s766 ≤ 1 by omega) (show LxP (m775.1 7) (m775.1 8) (m775.1 9) (m.1 6) (m775.1 10) by first | exact hLx | exact (fun _ => hLx (by omega)) | (intro h9; exfalso; omega)) (show s759 = 0 ∨ s759 = 1 by omega) (show s766 = 0 ∨ s766 = 1 by omega) (show (upI (m60.2 52) (m.1 26) (((m60.2 52) (m.1 26)) + (m267.1 69))) (m.1 26) ≤ 1024 * (upI (m60.2 51) (m.1 26) (((m60.2 51) (m.1 26)) + 1)) (m.1 26) by rw [upI_s, upI_s]; omega) (fun (h : (m775.1 10) = 0) => absurd h (by omega)) (show 1000000 * (8 - (m775.1 10)) + (4000 - (m775.1 8)) < (n74 : Int) by omega)
                            refine T_if 348 340 rfl rfl rfl (r32 (by omega) (by omega)) (fun (h790 : v59 ≠ 0) => ?_) (fun (h790 : ¬ (v59 ≠ 0)) => ?_)
                            · skip
                              refine T_ld 349 (.int (i32 1)) rfl (fun _ => rfl) ?_
                              refine T_goto 353 rfl (fun _ => rfl) ?_
                              refine Tm_lv (a := [(0, .ref 189), (1, .int (i32 (m.1 26))), (2, .int (i32 s759)), (3, .int (i32 v59)), (4, .int (i32 ((4 * (m.1 26)) + ((m60.2 51) (m.1 26))))), (5, .int (i32 (m267.1 69))), (6, .int (i32 (m291.1 8))), (7, .int (i32 (m291.1 7)))]) rfl rfl ⟨rfl, rfl, rfl, rfl, rfl, rfl, rfl, rfl, trivial⟩ ?_
                              exact J353_767 1 ⟨by decide, by decide⟩ (show 0 ≤ (1 : Int) by omega) (show (1 : Int) ≤ 1 by omega)
                            · skip
                              refine T_ld 342 (.int (i32 (m291.1 7))) rfl (fun _ => rfl) ?_
                              refine T_ld 345 (.int (i32 314)) rfl (fun _ => rfl) ?_
                              refine T_icmp 352 348 rfl rfl rfl (r32 (by omega) (by omega)) ⟨by decide, by decide⟩ (fun (h791 : (m291.1 7) ≠ 314) => ?_) (fun (h791 : ¬ ((m291.1 7) ≠ 314)) => ?_)
                              · skip
                                refine T_ld 353 (.int (i32 0)) rfl (fun _ => rfl) ?_
                                refine Tm_lv (a := [(0, .ref 189), (1, .int (i32 (m.1 26))), (2, .int (i32 s759)), (3, .int (i32 v59)), (4, .int (i32 ((4 * (m.1 26)) + ((m60.2 51) (m.1 26))))), (5, .int (i32 (m267.1 69))), (6, .int (i32 (m291.1 8))), (7, .int (i32 (m291.1 7)))]) rfl rfl ⟨rfl, rfl, rfl, rfl, rfl, rfl, rfl, rfl, trivial⟩ ?_
                                exact J353_767 0 ⟨by decide, by decide⟩ (show 0 ≤ (0 : Int) by omega) (show (0 : Int) ≤ 1 by omega)
                              · skip
                                refine T_ld 349 (.int (i32 1)) rfl (fun _ => rfl) ?_
                                refine T_goto 353 rfl (fun _ => rfl) ?_
                                refine Tm_lv (a := [(0, .ref 189), (1, .int (i32 (m.1 26))), (2, .int (i32 s759)), (3, .int (i32 v59)), (4, .int (i32 ((4 * (m.1 26)) + ((m60.2 51) (m.1 26))))), (5, .int (i32 (m267.1 69))), (6, .int (i32 (m291.1 8))), (7, .int (i32 (m291.1 7)))]) rfl rfl ⟨rfl, rfl, rfl, rfl, rfl, rfl, rfl, rfl, trivial⟩ ?_
                                exact J353_767 1 ⟨by decide, by decide⟩ (show 0 ≤ (1 : Int) by omega) (show (1 : Int) ≤ 1 by omega)
                          refine T_if 330 322 rfl rfl rfl (r32 (by omega) (by omega)) (fun (h792 : v58 ≠ 0) => ?_) (fun (h792 : ¬ (v58 ≠ 0)) => ?_)
                          · skip
                            refine T_ld 331 (.int (i32 1)) rfl (fun _ => rfl) ?_
                            refine T_goto 335 rfl (fun _ => rfl) ?_
                            refine Tm_lv (a := [(0, .ref 189), (1, .int (i32 (m.1 26))), (2, .int (i32 v58)), (3, .int (i32 v59)), (4, .int (i32 ((4 * (m.1 26)) + ((m60.2 51) (m.1 26))))), (5, .int (i32 (m267.1 69))), (6, .int (i32 (m291.1 8))), (7, .int (i32 (m291.1 7)))]) rfl rfl ⟨rfl, rfl, rfl, rfl, rfl, rfl, rfl, rfl, trivial⟩ ?_
                            exact J335_760 1 ⟨by decide, by decide⟩ (show 0 ≤ (1 : Int) by omega) (show (1 : Int) ≤ 1 by omega)
                          · skip
                            refine T_ld 324 (.int (i32 (m291.1 7))) rfl (fun _ => rfl) ?_
                            refine T_ld 327 (.int (i32 313)) rfl (fun _ => rfl) ?_
                            refine T_icmp 334 330 rfl rfl rfl (r32 (by omega) (by omega)) ⟨by decide, by decide⟩ (fun (h793 : (m291.1 7) ≠ 313) => ?_) (fun (h793 : ¬ ((m291.1 7) ≠ 313)) => ?_)
                            · skip
                              refine T_ld 335 (.int (i32 0)) rfl (fun _ => rfl) ?_
                              refine Tm_lv (a := [(0, .ref 189), (1, .int (i32 (m.1 26))), (2, .int (i32 v58)), (3, .int (i32 v59)), (4, .int (i32 ((4 * (m.1 26)) + ((m60.2 51) (m.1 26))))), (5, .int (i32 (m267.1 69))), (6, .int (i32 (m291.1 8))), (7, .int (i32 (m291.1 7)))]) rfl rfl ⟨rfl, rfl, rfl, rfl, rfl, rfl, rfl, rfl, trivial⟩ ?_
                              exact J335_760 0 ⟨by decide, by decide⟩ (show 0 ≤ (0 : Int) by omega) (show (0 : Int) ≤ 1 by omega)
                            · skip
                              refine T_ld 331 (.int (i32 1)) rfl (fun _ => rfl) ?_
                              refine T_goto 335 rfl (fun _ => rfl) ?_
                              refine Tm_lv (a := [(0, .ref 189), (1, .int (i32 (m.1 26))), (2, .int (i32 v58)), (3, .int (i32 v59)), (4, .int (i32 ((4 * (m.1 26)) + ((m60.2 51) (m.1 26))))), (5, .int (i32 (m267.1 69))), (6, .int (i32 (m291.1 8))), (7, .int (i32 (m291.1 7)))]) rfl rfl ⟨rfl, rfl, rfl, rfl, rfl, rfl, rfl, rfl, trivial⟩ ?_
                              exact J335_760 1 ⟨by decide, by decide⟩ (show 0 ≤ (1 : Int) by omega) (show (1 : Int) ≤ 1 by omega)
                      · skip
                        clear c270
                        clear h268
                        replace h269 : LxP (m267.1 7) (m267.1 8) (m267.1 9) (m250.1 6) (m267.1 10) := h269
                        rewrite [(show (m250.1 6) = (m.1 6) from ((fr1 Fm250 6 rfl).trans ((fr1 Fm60 6 rfl).trans ((fr1 Fm44 6 rfl).trans ((fr1 Fm18 6 rfl).trans (fr1 Fm4 6 rfl))))))] at h269
                        have hLx := h269
                        have hf794 : 1 ≤ (m267.1 10) := by omega
                        clear q72_69 c78 c80 c81 g255 g256 g257 g258 g259 h251 h253 u262 u261 h264
                        refine T_gf 187 (.ref 271) rfl rfl rfl rfl rfl rfl ?_
                        refine T_ld 189 (.int (i32 ((4 * (m.1 26)) + ((m60.2 51) (m.1 26))))) rfl (fun _ => rfl) ?_
                        refine T_gf 193 (.int (i32 (m267.1 28))) rfl rfl rfl rfl rfl rfl ?_
                        have G795 : ∀ j, 0 ≤ (upI (m60.2 111) ((4 * (m.1 26)) + ((m60.2 51) (m.1 26))) (m267.1 28)) j ∧ (upI (m60.2 111) ((4 * (m.1 26)) + ((m60.2 51) (m.1 26))) (m267.1 28)) j ≤ 800 := upI_rg (Tm60.2.1 111) ⟨by omega, by omega⟩
                        refine T_iast (a' := [(111, upI (m60.2 111) ((4 * (m.1 26)) + ((m60.2 51) (m.1 26))) (m267.1 28))]) 194 111 (m60.2 111) rfl rfl rfl (by omega) (show ((4 * (m.1 26)) + ((m60.2 51) (m.1 26))) < (32 : Int) by omega) (show (m267.2 111) = (m60.2 111) from ((fr2 Fm267 111 rfl).trans (fr2 Fm250 111 rfl))) rfl ?_
                        refine T_gf 198 (.int (i32 (m267.1 69))) rfl rfl rfl rfl rfl rfl ?_
                        refine T_sto 200 [(5, .int (i32 (m267.1 69))), (4, .int (i32 ((4 * (m.1 26)) + ((m60.2 51) (m.1 26))))), (0, .ref 189), (1, .int (i32 (m.1 26))), (2, .int (i32 v58)), (3, .int (i32 v59))] rfl (fun _ => rfl) ?_
                        refine T_gf 204 (.ref 272) rfl rfl rfl rfl rfl rfl ?_
                        refine T_ld 206 (.int (i32 ((4 * (m.1 26)) + ((m60.2 51) (m.1 26))))) rfl (fun _ => rfl) ?_
                        refine T_ld 208 (.int (i32 (m267.1 69))) rfl (fun _ => rfl) ?_
                        have G796 : ∀ j, 0 ≤ (upI (m60.2 112) ((4 * (m.1 26)) + ((m60.2 51) (m.1 26))) (m267.1 69)) j ∧ (upI (m60.2 112) ((4 * (m.1 26)) + ((m60.2 51) (m.1 26))) (m267.1 69)) j ≤ 1024 := upI_rg (Tm60.2.1 112) ⟨by omega, by omega⟩
                        refine T_iast (a' := [(111, upI (m60.2 111) ((4 * (m.1 26)) + ((m60.2 51) (m.1 26))) (m267.1 28)), (112, upI (m60.2 112) ((4 * (m.1 26)) + ((m60.2 51) (m.1 26))) (m267.1 69))]) 209 112 (m60.2 112) rfl rfl rfl (by omega) (show ((4 * (m.1 26)) + ((m60.2 51) (m.1 26))) < (32 : Int) by omega) (show (m267.2 112) = (m60.2 112) from ((fr2 Fm267 112 rfl).trans (fr2 Fm250 112 rfl))) rfl ?_
                        refine T_ld 210 (.ref 189) rfl (fun _ => rfl) ?_
                        refine T_ld 212 (.int (i32 58)) rfl (fun _ => rfl) ?_
                        refine T_call 215 232 [.ref 189, .int (i32 58)] [] rfl (fun _ => rfl) rfl (d_need w (mO m267 [] [(111, upI (m60.2 111) ((4 * (m.1 26)) + ((m60.2 51) (m.1 26))) (m267.1 28)), (112, upI (m60.2 112) ((4 * (m.1 26)) + ((m60.2 51) (m.1 26))) (m267.1 69))]) c N D (by omega) (Ty_mO Tm267 rfl rfl trivial ⟨G795, G796, trivial⟩) 58 ⟨by decide, by decide⟩ (show 1 ≤ (58 : Int) by omega) (show LxP (m267.1 7) (m267.1 8) (m267.1 9) (m267.1 6) (m267.1 10) by rewrite [(show (m267.1 6) = (m.1 6) from ((fr1 Fm267 6 rfl).trans ((fr1 Fm250 6 rfl).trans ((fr1 Fm60 6 rfl).trans ((fr1 Fm44 6 rfl).trans ((fr1 Fm18 6 rfl).trans (fr1 Fm4 6 rfl)))))))]; first | exact hLx | (intro h9; exfalso; omega) | (intro h9; have h8 := hLx (by omega); omega))) (fun rr797 k798 => ?_)
                        obtain ⟨m799, Tm799, Fm799, h800, h801, h802, h803, rfl⟩ := k798
                        refine ⟨_, _, rfl, ?_⟩
                        refine T_nb (st' := []) rfl ?_
                        have g804 : 0 ≤ m799.1 7 ∧ m799.1 7 ≤ 330 := Tm799.1 7
                        have g805 : 0 ≤ m799.1 8 ∧ m799.1 8 ≤ 4000 := Tm799.1 8
                        have g806 : 0 ≤ m799.1 9 ∧ m799.1 9 ≤ 4000 := Tm799.1 9
                        have g807 : 0 ≤ m799.1 10 ∧ m799.1 10 ≤ 8 := Tm799.1 10
                        have g808 : (-1) ≤ m799.1 11 ∧ m799.1 11 ≤ 4000 := Tm799.1 11
                        replace h800 : LxP (m799.1 7) (m799.1 8) (m799.1 9) (m267.1 6) (m799.1 10) := h800
                        rewrite [(show (m267.1 6) = (m.1 6) from ((fr1 Fm267 6 rfl).trans ((fr1 Fm250 6 rfl).trans ((fr1 Fm60 6 rfl).trans ((fr1 Fm44 6 rfl).trans ((fr1 Fm18 6 rfl).trans (fr1 Fm4 6 rfl)))))))] at h800
                        replace h801 : (m799.1 10) = 0 → (m267.1 10) = 0 ∧ (m267.1 7) = (58 : Int) := h801
                        replace h802 : (m267.1 8) ≤ (m799.1 8) := h802
                        replace h803 : (m799.1 10) = 0 → (m267.1 8) + (m267.1 9) ≤ (m799.1 8) := h803
                        have hf809 : 1 ≤ (m799.1 10) := by omega
                        clear h801
                        clear h803
                        have hLx := h800
                        clear g271 g272 g273 g274 g275 h269 hf794 h802
                        refine T_gf 219 (.int (i32 (m799.1 8))) rfl rfl rfl rfl rfl rfl ?_
                        refine T_sto 221 [(6, .int (i32 (m799.1 8))), (5, .int (i32 (m267.1 69))), (4, .int (i32 ((4 * (m.1 26)) + ((m60.2 51) (m.1 26))))), (0, .ref 189), (1, .int (i32 (m.1 26))), (2, .int (i32 v58)), (3, .int (i32 v59))] rfl (fun _ => rfl) ?_
                        refine T_gf 225 (.int (i32 (m799.1 7))) rfl rfl rfl rfl rfl rfl ?_
                        refine T_sto 227 [(7, .int (i32 (m799.1 7))), (6, .int (i32 (m799.1 8))), (5, .int (i32 (m267.1 69))), (4, .int (i32 ((4 * (m.1 26)) + ((m60.2 51) (m.1 26))))), (0, .ref 189), (1, .int (i32 (m.1 26))), (2, .int (i32 v58)), (3, .int (i32 v59))] rfl (fun _ => rfl) ?_
                        refine T_gf 231 (.int (i32 (m799.1 10))) rfl rfl rfl rfl rfl rfl ?_
                        refine T_if 262 234 rfl rfl rfl (r32 (by omega) (by omega)) (fun (h810 : (m799.1 10) ≠ 0) => ?_) (fun (h810 : ¬ ((m799.1 10) ≠ 0)) => by exfalso; omega)
                        refine T_ld 263 (.ref 189) rfl (fun _ => rfl) ?_
                        refine T_call 266 212 [.ref 189] [] rfl (fun _ => rfl) rfl (d_next w (mO m799 [] []) c N D (by omega) Tm799 (show (m799.1 10) = 0 → (m799.1 8) + (m799.1 9) ≤ (m799.1 6) by rewrite [(show (m799.1 6) = (m.1 6) from ((fr1 Fm799 6 rfl).trans ((fr1 Fm267 6 rfl).trans ((fr1 Fm250 6 rfl).trans ((fr1 Fm60 6 rfl).trans ((fr1 Fm44 6 rfl).trans ((fr1 Fm18 6 rfl).trans (fr1 Fm4 6 rfl))))))))]; first | omega | (intro h9; have h8 := hLx h9; omega))) (fun rr811 k812 => ?_)
                        obtain ⟨m813, Tm813, Fm813, h814, h815, h816, h817, rfl⟩ := k812
                        refine ⟨_, _, rfl, ?_⟩
                        refine T_nb (st' := []) rfl ?_
                        have g818 : 0 ≤ m813.1 7 ∧ m813.1 7 ≤ 330 := Tm813.1 7
                        have g819 : 0 ≤ m813.1 8 ∧ m813.1 8 ≤ 4000 := Tm813.1 8
                        have g820 : 0 ≤ m813.1 9 ∧ m813.1 9 ≤ 4000 := Tm813.1 9
                        have g821 : 0 ≤ m813.1 10 ∧ m813.1 10 ≤ 8 := Tm813.1 10
                        have g822 : (-1) ≤ m813.1 11 ∧ m813.1 11 ≤ 4000 := Tm813.1 11
                        replace h814 : LxP (m813.1 7) (m813.1 8) (m813.1 9) (m799.1 6) (m813.1 10) := h814
                        rewrite [(show (m799.1 6) = (m.1 6) from ((fr1 Fm799 6 rfl).trans ((fr1 Fm267 6 rfl).trans ((fr1 Fm250 6 rfl).trans ((fr1 Fm60 6 rfl).trans ((fr1 Fm44 6 rfl).trans ((fr1 Fm18 6 rfl).trans (fr1 Fm4 6 rfl))))))))] at h814
                        replace h815 : (m813.1 10) = 0 → (m799.1 10) = 0 := h815
                        replace h816 : (m799.1 8) ≤ (m813.1 8) := h816
                        replace h817 : (m813.1 10) = 0 → (m799.1 8) + (m799.1 9) ≤ (m813.1 8) := h817
                        have hf823 : 1 ≤ (m813.1 10) := by omega
                        clear h815
                        clear h817
                        have hLx := h814
                        clear g806 g807 g808 hf809 h800 h810
                        refine T_gf 270 (.int (i32 (m813.1 10))) rfl rfl rfl rfl rfl rfl ?_
                        refine T_if 309 273 rfl rfl rfl (r32 (by omega) (by omega)) (fun (h824 : (m813.1 10) ≠ 0) => ?_) (fun (h824 : ¬ ((m813.1 10) ≠ 0)) => by exfalso; omega)
                        refine T_gf 313 (.ref 273) rfl rfl rfl rfl rfl rfl ?_
                        refine T_ld 315 (.int (i32 ((4 * (m.1 26)) + ((m60.2 51) (m.1 26))))) rfl (fun _ => rfl) ?_
                        refine T_ld 317 (.int (i32 (m799.1 7))) rfl (fun _ => rfl) ?_
                        have G825 : ∀ j, 0 ≤ (upI (m60.2 113) ((4 * (m.1 26)) + ((m60.2 51) (m.1 26))) (m799.1 7)) j ∧ (upI (m60.2 113) ((4 * (m.1 26)) + ((m60.2 51) (m.1 26))) (m799.1 7)) j ≤ 330 := upI_rg (Tm60.2.1 113) ⟨by omega, by omega⟩
                        refine T_iast (a' := [(113, upI (m60.2 113) ((4 * (m.1 26)) + ((m60.2 51) (m.1 26))) (m799.1 7))]) 318 113 (m60.2 113) rfl rfl rfl (by omega) (show ((4 * (m.1 26)) + ((m60.2 51) (m.1 26))) < (32 : Int) by omega) (show (m813.2 113) = (m60.2 113) from ((fr2 Fm813 113 rfl).trans ((fr2 Fm799 113 rfl).trans ((fr2 Fm267 113 rfl).trans (fr2 Fm250 113 rfl))))) rfl ?_
                        refine T_ld 319 (.int (i32 v58)) rfl (fun _ => rfl) ?_
                        have J335_827 : ∀ (s826 : Int), (R32 s826) → (0 ≤ s826) → (s826 ≤ 1) → TT w D pm_275 (335, [(0, .ref 189), (1, .int (i32 (m.1 26))), (2, .int (i32 v58)), (3, .int (i32 v59)), (4, .int (i32 ((4 * (m.1 26)) + ((m60.2 51) (m.1 26))))), (5, .int (i32 (m267.1 69))), (6, .int (i32 (m799.1 8))), (7, .int (i32 (m799.1 7)))], [.int (i32 s826)], (mhp (mO m813 [] [(113, upI (m60.2 113) ((4 * (m.1 26)) + ((m60.2 51) (m.1 26))) (m799.1 7))]) c, N), 0, 0) (Q_takeTable m c N) := by
                          intro s826 q830 ic828 ic829
                          obtain ⟨q830a, q830b⟩ := id q830
                          refine T_sto 336 [(2, .int (i32 s826)), (0, .ref 189), (1, .int (i32 (m.1 26))), (3, .int (i32 v59)), (4, .int (i32 ((4 * (m.1 26)) + ((m60.2 51) (m.1 26))))), (5, .int (i32 (m267.1 69))), (6, .int (i32 (m799.1 8))), (7, .int (i32 (m799.1 7)))] rfl (fun _ => rfl) ?_
                          refine T_ld 337 (.int (i32 v59)) rfl (fun _ => rfl) ?_
                          have J353_834 : ∀ (s833 : Int), (R32 s833) → (0 ≤ s833) → (s833 ≤ 1) → TT w D pm_275 (353, [(0, .ref 189), (1, .int (i32 (m.1 26))), (2, .int (i32 s826)), (3, .int (i32 v59)), (4, .int (i32 ((4 * (m.1 26)) + ((m60.2 51) (m.1 26))))), (5, .int (i32 (m267.1 69))), (6, .int (i32 (m799.1 8))), (7, .int (i32 (m799.1 7)))], [.int (i32 s833)], (mhp (mO m813 [] [(113, upI (m60.2 113) ((4 * (m.1 26)) + ((m60.2 51) (m.1 26))) (m799.1 7))]) c, N), 0, 0) (Q_takeTable m c N) := by
                            intro s833 q837 ic835 ic836
                            obtain ⟨q837a, q837b⟩ := id q837
                            refine T_sto 354 [(3, .int (i32 s833)), (0, .ref 189), (1, .int (i32 (m.1 26))), (2, .int (i32 s826)), (4, .int (i32 ((4 * (m.1 26)) + ((m60.2 51) (m.1 26))))), (5, .int (i32 (m267.1 69))), (6, .int (i32 (m799.1 8))), (7, .int (i32 (m799.1 7)))] rfl (fun _ => rfl) ?_
                            refine T_ld 355 (.ref 189) rfl (fun _ => rfl) ?_
                            refine T_ld 357 (.int (i32 59)) rfl (fun _ => rfl) ?_
                            refine T_call 360 232 [.ref 189, .int (i32 59)] [] rfl (fun _ => rfl) rfl (d_need w (mO m813 [] [(113, upI (m60.2 113) ((4 * (m.1 26)) + ((m60.2 51) (m.1 26))) (m799.1 7))]) c N D (by omega) (Ty_mO Tm813 rfl rfl trivial ⟨G825, trivial⟩) 59 ⟨by decide, by decide⟩ (show 1 ≤ (59 : Int) by omega) (show LxP (m813.1 7) (m813.1 8) (m813.1 9) (m813.1 6) (m813.1 10) by rewrite [(show (m813.1 6) = (m.1 6) from ((fr1 Fm813 6 rfl).trans ((fr1 Fm799 6 rfl).trans ((fr1 Fm267 6 rfl).trans ((fr1 Fm250 6 rfl).trans ((fr1 Fm60 6 rfl).trans ((fr1 Fm44 6 rfl).trans ((fr1 Fm18 6 rfl).trans (fr1 Fm4 6 rfl)))))))))]; first | exact hLx | (intro h9; exfalso; omega) | (intro h9; have h8 := hLx (by omega); omega))) (fun rr840 k841 => ?_)
                            obtain ⟨m842, Tm842, Fm842, h843, h844, h845, h846, rfl⟩ := k841
                            refine ⟨_, _, rfl, ?_⟩
                            refine T_nb (st' := []) rfl ?_
                            have g847 : 0 ≤ m842.1 7 ∧ m842.1 7 ≤ 330 := Tm842.1 7
                            have g848 : 0 ≤ m842.1 8 ∧ m842.1 8 ≤ 4000 := Tm842.1 8
                            have g849 : 0 ≤ m842.1 9 ∧ m842.1 9 ≤ 4000 := Tm842.1 9
                            have g850 : 0 ≤ m842.1 10 ∧ m842.1 10 ≤ 8 := Tm842.1 10
                            have g851 : (-1) ≤ m842.1 11 ∧ m842.1 11 ≤ 4000 := Tm842.1 11
                            replace h843 : LxP (m842.1 7) (m842.1 8) (m842.1 9) (m813.1 6) (m842.1 10) := h843
                            rewrite [(show (m813.1 6) = (m.1 6) from ((fr1 Fm813 6 rfl).trans ((fr1 Fm799 6 rfl).trans ((fr1 Fm267 6 rfl).trans ((fr1 Fm250 6 rfl).trans ((fr1 Fm60 6 rfl).trans ((fr1 Fm44 6 rfl).trans ((fr1 Fm18 6 rfl).trans (fr1 Fm4 6 rfl)))))))))] at h843
                            replace h844 : (m842.1 10) = 0 → (m813.1 10) = 0 ∧ (m813.1 7) = (59 : Int) := h844
                            replace h845 : (m813.1 8) ≤ (m842.1 8) := h845
                            replace h846 : (m842.1 10) = 0 → (m813.1 8) + (m813.1 9) ≤ (m842.1 8) := h846
                            have hf852 : 1 ≤ (m842.1 10) := by omega
                            clear h844
                            clear h846
                            have hLx := h843
                            clear q70a q70b q70 q71a q71b q71 ic62 ic63 ic64 ic65 ic67 ic68 g818 g819 g820 g821 g822 hf823 h814 h816 h824 h845
                            refine T_gf 364 (.ref 221) rfl rfl rfl rfl rfl rfl ?_
                            refine T_ld 365 (.int (i32 (m.1 26))) rfl (fun _ => rfl) ?_
                            refine T_dup2 366 rfl (fun _ => rfl) ?_
                            refine T_iald 367 51 (m60.2 51) rfl rfl rfl (by omega) (show (m.1 26) < (8 : Int) by omega) (show (m842.2 51) = (m60.2 51) from ((fr2 Fm842 51 rfl).trans ((fr2 Fm813 51 rfl).trans ((fr2 Fm799 51 rfl).trans ((fr2 Fm267 51 rfl).trans (fr2 Fm250 51 rfl)))))) ?_
                            have e853 : 0 ≤ (m60.2 51) (m.1 26) ∧ (m60.2 51) (m.1 26) ≤ 4 := (Tm60.2.1 51) (m.1 26)
                            refine T_ld 368 (.int (i32 1)) rfl (fun _ => rfl) ?_
                            refine T_iadd 369 rfl rfl ?_
                            have G854 : ∀ j, 0 ≤ (upI (m60.2 51) (m.1 26) (((m60.2 51) (m.1 26)) + 1)) j ∧ (upI (m60.2 51) (m.1 26) (((m60.2 51) (m.1 26)) + 1)) j ≤ 4 := upI_rg (Tm60.2.1 51) ⟨by omega, by omega⟩
                            refine T_iast (a' := [(51, upI (m60.2 51) (m.1 26) (((m60.2 51) (m.1 26)) + 1))]) 370 51 (m60.2 51) rfl rfl rfl (by omega) (show (m.1 26) < (8 : Int) by omega) (show (m842.2 51) = (m60.2 51) from ((fr2 Fm842 51 rfl).trans ((fr2 Fm813 51 rfl).trans ((fr2 Fm799 51 rfl).trans ((fr2 Fm267 51 rfl).trans (fr2 Fm250 51 rfl)))))) rfl ?_
                            refine T_gf 374 (.ref 222) rfl rfl rfl rfl rfl rfl ?_
                            refine T_ld 375 (.int (i32 (m.1 26))) rfl (fun _ => rfl) ?_
                            refine T_dup2 376 rfl (fun _ => rfl) ?_
                            refine T_iald 377 52 (m60.2 52) rfl rfl rfl (by omega) (show (m.1 26) < (8 : Int) by omega) (show (m842.2 52) = (m60.2 52) from ((fr2 Fm842 52 rfl).trans ((fr2 Fm813 52 rfl).trans ((fr2 Fm799 52 rfl).trans ((fr2 Fm267 52 rfl).trans (fr2 Fm250 52 rfl)))))) ?_
                            have e855 : 0 ≤ (m60.2 52) (m.1 26) ∧ (m60.2 52) (m.1 26) ≤ 4096 := (Tm60.2.1 52) (m.1 26)
                            refine T_ld 379 (.int (i32 (m267.1 69))) rfl (fun _ => rfl) ?_
                            refine T_iadd 380 rfl rfl ?_
                            have G856 : ∀ j, 0 ≤ (upI (m60.2 52) (m.1 26) (((m60.2 52) (m.1 26)) + (m267.1 69))) j ∧ (upI (m60.2 52) (m.1 26) (((m60.2 52) (m.1 26)) + (m267.1 69))) j ≤ 4096 := upI_rg (Tm60.2.1 52) ⟨by omega, by omega⟩
                            refine T_iast (a' := [(51, upI (m60.2 51) (m.1 26) (((m60.2 51) (m.1 26)) + 1)), (52, upI (m60.2 52) (m.1 26) (((m60.2 52) (m.1 26)) + (m267.1 69)))]) 381 52 (m60.2 52) rfl rfl rfl (by omega) (show (m.1 26) < (8 : Int) by omega) (show (m842.2 52) = (m60.2 52) from ((fr2 Fm842 52 rfl).trans ((fr2 Fm813 52 rfl).trans ((fr2 Fm799 52 rfl).trans ((fr2 Fm267 52 rfl).trans (fr2 Fm250 52 rfl)))))) rfl ?_
                            refine T_goto 101 rfl (fun _ => rfl) ?_
                            refine Tm_lv (a := [(0, .ref 189), (1, .int (i32 (m.1 26))), (2, .int (i32 s826)), (3, .int (i32 s833))]) rfl rfl ⟨rfl, rfl, rfl, rfl, trivial⟩ ?_
                            exact ih75 s826 s833 (mO m842 [] [(51, upI (m60.2 51) (m.1 26) (((m60.2 51) (m.1 26)) + 1)), (52, upI (m60.2 52) (m.1 26) (((m60.2 52) (m.1 26)) + (m267.1 69)))]) (r32 (by omega) (by omega)) (r32 (by omega) (by omega)) (Ty_mO Tm842 rfl rfl trivial ⟨G854, G856, trivial⟩) (fr_m (fr_s Fm842 (fr_m (fr_s Fm813 (fr_m (fr_s Fm799 (fr_m (fr_s Fm267 (fr_m (fr_s Fm250 (fr_m (fr_s Fm60 (fr_m fr_0 rfl rfl) rfl rfl) rfl rfl) rfl rfl) rfl rfl) rfl rfl) rfl rfl) rfl rfl) rfl rfl) rfl rfl) rfl rfl) rfl rfl) rfl rfl) (show 0 ≤ s826 by omega) (show s826 ≤ 1 by omega) (show 0 ≤ s833 by omega) (show s833 ≤ 1 by omega) (show LxP (m842.1 7) (m842.1 8) (m842.1 9) (m.1 6) (m842.1 10) by first | exact hLx | exact (fun _ => hLx (by omega)) | (intro h9; exfalso; omega)) (show s826 = 0 ∨ s826 = 1 by omega) (show s833 = 0 ∨ s833 = 1 by omega) (show (upI (m60.2 52) (m.1 26) (((m60.2 52) (m.1 26)) + (m267.1 69))) (m.1 26) ≤ 1024 * (upI (m60.2 51) (m.1 26) (((m60.2 51) (m.1 26)) + 1)) (m.1 26) by rw [upI_s, upI_s]; omega) (fun (h : (m842.1 10) = 0) => absurd h (by omega)) (show 1000000 * (8 - (m842.1 10)) + (4000 - (m842.1 8)) < (n74 : Int) by omega)
                          refine T_if 348 340 rfl rfl rfl (r32 (by omega) (by omega)) (fun (h857 : v59 ≠ 0) => ?_) (fun (h857 : ¬ (v59 ≠ 0)) => ?_)
                          · skip
                            refine T_ld 349 (.int (i32 1)) rfl (fun _ => rfl) ?_
                            refine T_goto 353 rfl (fun _ => rfl) ?_
                            refine Tm_lv (a := [(0, .ref 189), (1, .int (i32 (m.1 26))), (2, .int (i32 s826)), (3, .int (i32 v59)), (4, .int (i32 ((4 * (m.1 26)) + ((m60.2 51) (m.1 26))))), (5, .int (i32 (m267.1 69))), (6, .int (i32 (m799.1 8))), (7, .int (i32 (m799.1 7)))]) rfl rfl ⟨rfl, rfl, rfl, rfl, rfl, rfl, rfl, rfl, trivial⟩ ?_
                            exact J353_834 1 ⟨by decide, by decide⟩ (show 0 ≤ (1 : Int) by omega) (show (1 : Int) ≤ 1 by omega)
                          · skip
                            refine T_ld 342 (.int (i32 (m799.1 7))) rfl (fun _ => rfl) ?_
                            refine T_ld 345 (.int (i32 314)) rfl (fun _ => rfl) ?_
                            refine T_icmp 352 348 rfl rfl rfl (r32 (by omega) (by omega)) ⟨by decide, by decide⟩ (fun (h858 : (m799.1 7) ≠ 314) => ?_) (fun (h858 : ¬ ((m799.1 7) ≠ 314)) => ?_)
                            · skip
                              refine T_ld 353 (.int (i32 0)) rfl (fun _ => rfl) ?_
                              refine Tm_lv (a := [(0, .ref 189), (1, .int (i32 (m.1 26))), (2, .int (i32 s826)), (3, .int (i32 v59)), (4, .int (i32 ((4 * (m.1 26)) + ((m60.2 51) (m.1 26))))), (5, .int (i32 (m267.1 69))), (6, .int (i32 (m799.1 8))), (7, .int (i32 (m799.1 7)))]) rfl rfl ⟨rfl, rfl, rfl, rfl, rfl, rfl, rfl, rfl, trivial⟩ ?_
                              exact J353_834 0 ⟨by decide, by decide⟩ (show 0 ≤ (0 : Int) by omega) (show (0 : Int) ≤ 1 by omega)
                            · skip
                              refine T_ld 349 (.int (i32 1)) rfl (fun _ => rfl) ?_
                              refine T_goto 353 rfl (fun _ => rfl) ?_
                              refine Tm_lv (a := [(0, .ref 189), (1, .int (i32 (m.1 26))), (2, .int (i32 s826)), (3, .int (i32 v59)), (4, .int (i32 ((4 * (m.1 26)) + ((m60.2 51) (m.1 26))))), (5, .int (i32 (m267.1 69))), (6, .int (i32 (m799.1 8))), (7, .int (i32 (m799.1 7)))]) rfl rfl ⟨rfl, rfl, rfl, rfl, rfl, rfl, rfl, rfl, trivial⟩ ?_
                              exact J353_834 1 ⟨by decide, by decide⟩ (show 0 ≤ (1 : Int) by omega) (show (1 : Int) ≤ 1 by omega)
                        refine T_if 330 322 rfl rfl rfl (r32 (by omega) (by omega)) (fun (h859 : v58 ≠ 0) => ?_) (fun (h859 : ¬ (v58 ≠ 0)) => ?_)
                        · skip
                          refine T_ld 331 (.int (i32 1)) rfl (fun _ => rfl) ?_
                          refine T_goto 335 rfl (fun _ => rfl) ?_
                          refine Tm_lv (a := [(0, .ref 189), (1, .int (i32 (m.1 26))), (2, .int (i32 v58)), (3, .int (i32 v59)), (4, .int (i32 ((4 * (m.1 26)) + ((m60.2 51) (m.1 26))))), (5, .int (i32 (m267.1 69))), (6, .int (i32 (m799.1 8))), (7, .int (i32 (m799.1 7)))]) rfl rfl ⟨rfl, rfl, rfl, rfl, rfl, rfl, rfl, rfl, trivial⟩ ?_
                          exact J335_827 1 ⟨by decide, by decide⟩ (show 0 ≤ (1 : Int) by omega) (show (1 : Int) ≤ 1 by omega)
                        · skip
                          refine T_ld 324 (.int (i32 (m799.1 7))) rfl (fun _ => rfl) ?_
                          refine T_ld 327 (.int (i32 313)) rfl (fun _ => rfl) ?_
                          refine T_icmp 334 330 rfl rfl rfl (r32 (by omega) (by omega)) ⟨by decide, by decide⟩ (fun (h860 : (m799.1 7) ≠ 313) => ?_) (fun (h860 : ¬ ((m799.1 7) ≠ 313)) => ?_)
                          · skip
                            refine T_ld 335 (.int (i32 0)) rfl (fun _ => rfl) ?_
                            refine Tm_lv (a := [(0, .ref 189), (1, .int (i32 (m.1 26))), (2, .int (i32 v58)), (3, .int (i32 v59)), (4, .int (i32 ((4 * (m.1 26)) + ((m60.2 51) (m.1 26))))), (5, .int (i32 (m267.1 69))), (6, .int (i32 (m799.1 8))), (7, .int (i32 (m799.1 7)))]) rfl rfl ⟨rfl, rfl, rfl, rfl, rfl, rfl, rfl, rfl, trivial⟩ ?_
                            exact J335_827 0 ⟨by decide, by decide⟩ (show 0 ≤ (0 : Int) by omega) (show (0 : Int) ≤ 1 by omega)
                          · skip
                            refine T_ld 331 (.int (i32 1)) rfl (fun _ => rfl) ?_
                            refine T_goto 335 rfl (fun _ => rfl) ?_
                            refine Tm_lv (a := [(0, .ref 189), (1, .int (i32 (m.1 26))), (2, .int (i32 v58)), (3, .int (i32 v59)), (4, .int (i32 ((4 * (m.1 26)) + ((m60.2 51) (m.1 26))))), (5, .int (i32 (m267.1 69))), (6, .int (i32 (m799.1 8))), (7, .int (i32 (m799.1 7)))]) rfl rfl ⟨rfl, rfl, rfl, rfl, rfl, rfl, rfl, rfl, trivial⟩ ?_
                            exact J335_827 1 ⟨by decide, by decide⟩ (show 0 ≤ (1 : Int) by omega) (show (1 : Int) ≤ 1 by omega)
                    · skip
                      replace h251 : LxP (m250.1 7) (m250.1 8) (m250.1 9) (m60.1 6) (m250.1 10) := h251
                      rewrite [(show (m60.1 6) = (m.1 6) from ((fr1 Fm60 6 rfl).trans ((fr1 Fm44 6 rfl).trans ((fr1 Fm18 6 rfl).trans (fr1 Fm4 6 rfl)))))] at h251
                      have hLx := h251
                      clear h252
                      replace h253 : (m60.1 8) ≤ (m250.1 8) := h253
                      clear h254
                      have hf861 : 1 ≤ (m250.1 10) := by omega
                      clear g49 g50 g51 g52 g53 h45 u55 h56 h57 q72_7 q72_9 q72_11 ic66 h86
                      refine T_gf 165 (.ref 270) rfl rfl rfl rfl rfl rfl ?_
                      refine T_ld 167 (.int (i32 ((4 * (m.1 26)) + ((m60.2 51) (m.1 26))))) rfl (fun _ => rfl) ?_
                      refine T_gf 171 (.int (i32 (m60.1 28))) rfl rfl rfl rfl (mfv_c (F := fun x => .int (i32 x)) rfl (show (m250.1 28) = (m60.1 28) from (fr1 Fm250 28 rfl))) rfl ?_
                      have G862 : ∀ j, 0 ≤ (upI (m60.2 110) ((4 * (m.1 26)) + ((m60.2 51) (m.1 26))) (m60.1 28)) j ∧ (upI (m60.2 110) ((4 * (m.1 26)) + ((m60.2 51) (m.1 26))) (m60.1 28)) j ≤ 800 := upI_rg (Tm60.2.1 110) ⟨by omega, by omega⟩
                      refine T_iast (a' := [(110, upI (m60.2 110) ((4 * (m.1 26)) + ((m60.2 51) (m.1 26))) (m60.1 28))]) 172 110 (m60.2 110) rfl rfl rfl (by omega) (show ((4 * (m.1 26)) + ((m60.2 51) (m.1 26))) < (32 : Int) by omega) (show (m250.2 110) = (m60.2 110) from (fr2 Fm250 110 rfl)) rfl ?_
                      refine T_gf 176 (.int (i32 (m250.1 10))) rfl rfl rfl rfl rfl rfl ?_
                      refine T_if 183 179 rfl rfl rfl (r32 (by omega) (by omega)) (fun (h863 : (m250.1 10) ≠ 0) => ?_) (fun (h863 : ¬ ((m250.1 10) ≠ 0)) => by exfalso; omega)
                      refine T_gf 187 (.ref 271) rfl rfl rfl rfl rfl rfl ?_
                      refine T_ld 189 (.int (i32 ((4 * (m.1 26)) + ((m60.2 51) (m.1 26))))) rfl (fun _ => rfl) ?_
                      refine T_gf 193 (.int (i32 (m60.1 28))) rfl rfl rfl rfl (mfv_c (F := fun x => .int (i32 x)) rfl (show (m250.1 28) = (m60.1 28) from (fr1 Fm250 28 rfl))) rfl ?_
                      have G864 : ∀ j, 0 ≤ (upI (m60.2 111) ((4 * (m.1 26)) + ((m60.2 51) (m.1 26))) (m60.1 28)) j ∧ (upI (m60.2 111) ((4 * (m.1 26)) + ((m60.2 51) (m.1 26))) (m60.1 28)) j ≤ 800 := upI_rg (Tm60.2.1 111) ⟨by omega, by omega⟩
                      refine T_iast (a' := [(110, upI (m60.2 110) ((4 * (m.1 26)) + ((m60.2 51) (m.1 26))) (m60.1 28)), (111, upI (m60.2 111) ((4 * (m.1 26)) + ((m60.2 51) (m.1 26))) (m60.1 28))]) 194 111 (m60.2 111) rfl rfl rfl (by omega) (show ((4 * (m.1 26)) + ((m60.2 51) (m.1 26))) < (32 : Int) by omega) (show (m250.2 111) = (m60.2 111) from (fr2 Fm250 111 rfl)) rfl ?_
                      refine T_gf 198 (.int (i32 (m60.1 69))) rfl rfl rfl rfl (mfv_c (F := fun x => .int (i32 x)) rfl (show (m250.1 69) = (m60.1 69) from (fr1 Fm250 69 rfl))) rfl ?_
                      refine T_sto 200 [(5, .int (i32 (m60.1 69))), (4, .int (i32 ((4 * (m.1 26)) + ((m60.2 51) (m.1 26))))), (0, .ref 189), (1, .int (i32 (m.1 26))), (2, .int (i32 v58)), (3, .int (i32 v59))] rfl (fun _ => rfl) ?_
                      refine T_gf 204 (.ref 272) rfl rfl rfl rfl rfl rfl ?_
                      refine T_ld 206 (.int (i32 ((4 * (m.1 26)) + ((m60.2 51) (m.1 26))))) rfl (fun _ => rfl) ?_
                      refine T_ld 208 (.int (i32 (m60.1 69))) rfl (fun _ => rfl) ?_
                      have G865 : ∀ j, 0 ≤ (upI (m60.2 112) ((4 * (m.1 26)) + ((m60.2 51) (m.1 26))) (m60.1 69)) j ∧ (upI (m60.2 112) ((4 * (m.1 26)) + ((m60.2 51) (m.1 26))) (m60.1 69)) j ≤ 1024 := upI_rg (Tm60.2.1 112) ⟨by omega, by omega⟩
                      refine T_iast (a' := [(110, upI (m60.2 110) ((4 * (m.1 26)) + ((m60.2 51) (m.1 26))) (m60.1 28)), (111, upI (m60.2 111) ((4 * (m.1 26)) + ((m60.2 51) (m.1 26))) (m60.1 28)), (112, upI (m60.2 112) ((4 * (m.1 26)) + ((m60.2 51) (m.1 26))) (m60.1 69))]) 209 112 (m60.2 112) rfl rfl rfl (by omega) (show ((4 * (m.1 26)) + ((m60.2 51) (m.1 26))) < (32 : Int) by omega) (show (m250.2 112) = (m60.2 112) from (fr2 Fm250 112 rfl)) rfl ?_
                      refine T_ld 210 (.ref 189) rfl (fun _ => rfl) ?_
                      refine T_ld 212 (.int (i32 58)) rfl (fun _ => rfl) ?_
                      refine T_call 215 232 [.ref 189, .int (i32 58)] [] rfl (fun _ => rfl) rfl (d_need w (mO m250 [] [(110, upI (m60.2 110) ((4 * (m.1 26)) + ((m60.2 51) (m.1 26))) (m60.1 28)), (111, upI (m60.2 111) ((4 * (m.1 26)) + ((m60.2 51) (m.1 26))) (m60.1 28)), (112, upI (m60.2 112) ((4 * (m.1 26)) + ((m60.2 51) (m.1 26))) (m60.1 69))]) c N D (by omega) (Ty_mO Tm250 rfl rfl trivial ⟨G862, G864, G865, trivial⟩) 58 ⟨by decide, by decide⟩ (show 1 ≤ (58 : Int) by omega) (show LxP (m250.1 7) (m250.1 8) (m250.1 9) (m250.1 6) (m250.1 10) by rewrite [(show (m250.1 6) = (m.1 6) from ((fr1 Fm250 6 rfl).trans ((fr1 Fm60 6 rfl).trans ((fr1 Fm44 6 rfl).trans ((fr1 Fm18 6 rfl).trans (fr1 Fm4 6 rfl))))))]; first | exact hLx | (intro h9; exfalso; omega) | (intro h9; have h8 := hLx (by omega); omega))) (fun rr866 k867 => ?_)
                      obtain ⟨m868, Tm868, Fm868, h869, h870, h871, h872, rfl⟩ := k867
                      refine ⟨_, _, rfl, ?_⟩
                      refine T_nb (st' := []) rfl ?_
                      have g873 : 0 ≤ m868.1 7 ∧ m868.1 7 ≤ 330 := Tm868.1 7
                      have g874 : 0 ≤ m868.1 8 ∧ m868.1 8 ≤ 4000 := Tm868.1 8
                      have g875 : 0 ≤ m868.1 9 ∧ m868.1 9 ≤ 4000 := Tm868.1 9
                      have g876 : 0 ≤ m868.1 10 ∧ m868.1 10 ≤ 8 := Tm868.1 10
                      have g877 : (-1) ≤ m868.1 11 ∧ m868.1 11 ≤ 4000 := Tm868.1 11
                      replace h869 : LxP (m868.1 7) (m868.1 8) (m868.1 9) (m250.1 6) (m868.1 10) := h869
                      rewrite [(show (m250.1 6) = (m.1 6) from ((fr1 Fm250 6 rfl).trans ((fr1 Fm60 6 rfl).trans ((fr1 Fm44 6 rfl).trans ((fr1 Fm18 6 rfl).trans (fr1 Fm4 6 rfl))))))] at h869
                      replace h870 : (m868.1 10) = 0 → (m250.1 10) = 0 ∧ (m250.1 7) = (58 : Int) := h870
                      replace h871 : (m250.1 8) ≤ (m868.1 8) := h871
                      replace h872 : (m868.1 10) = 0 → (m250.1 8) + (m250.1 9) ≤ (m868.1 8) := h872
                      have hf878 : 1 ≤ (m868.1 10) := by omega
                      clear h870
                      clear h872
                      have hLx := h869
                      clear g255 g256 g257 g258 g259 h251 h253 hf861 h863 h871
                      refine T_gf 219 (.int (i32 (m868.1 8))) rfl rfl rfl rfl rfl rfl ?_
                      refine T_sto 221 [(6, .int (i32 (m868.1 8))), (5, .int (i32 (m60.1 69))), (4, .int (i32 ((4 * (m.1 26)) + ((m60.2 51) (m.1 26))))), (0, .ref 189), (1, .int (i32 (m.1 26))), (2, .int (i32 v58)), (3, .int (i32 v59))] rfl (fun _ => rfl) ?_
                      refine T_gf 225 (.int (i32 (m868.1 7))) rfl rfl rfl rfl rfl rfl ?_
                      refine T_sto 227 [(7, .int (i32 (m868.1 7))), (6, .int (i32 (m868.1 8))), (5, .int (i32 (m60.1 69))), (4, .int (i32 ((4 * (m.1 26)) + ((m60.2 51) (m.1 26))))), (0, .ref 189), (1, .int (i32 (m.1 26))), (2, .int (i32 v58)), (3, .int (i32 v59))] rfl (fun _ => rfl) ?_
                      refine T_gf 231 (.int (i32 (m868.1 10))) rfl rfl rfl rfl rfl rfl ?_
                      refine T_if 262 234 rfl rfl rfl (r32 (by omega) (by omega)) (fun (h879 : (m868.1 10) ≠ 0) => ?_) (fun (h879 : ¬ ((m868.1 10) ≠ 0)) => by exfalso; omega)
                      refine T_ld 263 (.ref 189) rfl (fun _ => rfl) ?_
                      refine T_call 266 212 [.ref 189] [] rfl (fun _ => rfl) rfl (d_next w (mO m868 [] []) c N D (by omega) Tm868 (show (m868.1 10) = 0 → (m868.1 8) + (m868.1 9) ≤ (m868.1 6) by rewrite [(show (m868.1 6) = (m.1 6) from ((fr1 Fm868 6 rfl).trans ((fr1 Fm250 6 rfl).trans ((fr1 Fm60 6 rfl).trans ((fr1 Fm44 6 rfl).trans ((fr1 Fm18 6 rfl).trans (fr1 Fm4 6 rfl)))))))]; first | omega | (intro h9; have h8 := hLx h9; omega))) (fun rr880 k881 => ?_)
                      obtain ⟨m882, Tm882, Fm882, h883, h884, h885, h886, rfl⟩ := k881
                      refine ⟨_, _, rfl, ?_⟩
                      refine T_nb (st' := []) rfl ?_
                      have g887 : 0 ≤ m882.1 7 ∧ m882.1 7 ≤ 330 := Tm882.1 7
                      have g888 : 0 ≤ m882.1 8 ∧ m882.1 8 ≤ 4000 := Tm882.1 8
                      have g889 : 0 ≤ m882.1 9 ∧ m882.1 9 ≤ 4000 := Tm882.1 9
                      have g890 : 0 ≤ m882.1 10 ∧ m882.1 10 ≤ 8 := Tm882.1 10
                      have g891 : (-1) ≤ m882.1 11 ∧ m882.1 11 ≤ 4000 := Tm882.1 11
                      replace h883 : LxP (m882.1 7) (m882.1 8) (m882.1 9) (m868.1 6) (m882.1 10) := h883
                      rewrite [(show (m868.1 6) = (m.1 6) from ((fr1 Fm868 6 rfl).trans ((fr1 Fm250 6 rfl).trans ((fr1 Fm60 6 rfl).trans ((fr1 Fm44 6 rfl).trans ((fr1 Fm18 6 rfl).trans (fr1 Fm4 6 rfl)))))))] at h883
                      replace h884 : (m882.1 10) = 0 → (m868.1 10) = 0 := h884
                      replace h885 : (m868.1 8) ≤ (m882.1 8) := h885
                      replace h886 : (m882.1 10) = 0 → (m868.1 8) + (m868.1 9) ≤ (m882.1 8) := h886
                      have hf892 : 1 ≤ (m882.1 10) := by omega
                      clear h884
                      clear h886
                      have hLx := h883
                      clear g875 g876 g877 hf878 h869 h879
                      refine T_gf 270 (.int (i32 (m882.1 10))) rfl rfl rfl rfl rfl rfl ?_
                      refine T_if 309 273 rfl rfl rfl (r32 (by omega) (by omega)) (fun (h893 : (m882.1 10) ≠ 0) => ?_) (fun (h893 : ¬ ((m882.1 10) ≠ 0)) => by exfalso; omega)
                      refine T_gf 313 (.ref 273) rfl rfl rfl rfl rfl rfl ?_
                      refine T_ld 315 (.int (i32 ((4 * (m.1 26)) + ((m60.2 51) (m.1 26))))) rfl (fun _ => rfl) ?_
                      refine T_ld 317 (.int (i32 (m868.1 7))) rfl (fun _ => rfl) ?_
                      have G894 : ∀ j, 0 ≤ (upI (m60.2 113) ((4 * (m.1 26)) + ((m60.2 51) (m.1 26))) (m868.1 7)) j ∧ (upI (m60.2 113) ((4 * (m.1 26)) + ((m60.2 51) (m.1 26))) (m868.1 7)) j ≤ 330 := upI_rg (Tm60.2.1 113) ⟨by omega, by omega⟩
                      refine T_iast (a' := [(113, upI (m60.2 113) ((4 * (m.1 26)) + ((m60.2 51) (m.1 26))) (m868.1 7))]) 318 113 (m60.2 113) rfl rfl rfl (by omega) (show ((4 * (m.1 26)) + ((m60.2 51) (m.1 26))) < (32 : Int) by omega) (show (m882.2 113) = (m60.2 113) from ((fr2 Fm882 113 rfl).trans ((fr2 Fm868 113 rfl).trans (fr2 Fm250 113 rfl)))) rfl ?_
                      refine T_ld 319 (.int (i32 v58)) rfl (fun _ => rfl) ?_
                      have J335_896 : ∀ (s895 : Int), (R32 s895) → (0 ≤ s895) → (s895 ≤ 1) → TT w D pm_275 (335, [(0, .ref 189), (1, .int (i32 (m.1 26))), (2, .int (i32 v58)), (3, .int (i32 v59)), (4, .int (i32 ((4 * (m.1 26)) + ((m60.2 51) (m.1 26))))), (5, .int (i32 (m60.1 69))), (6, .int (i32 (m868.1 8))), (7, .int (i32 (m868.1 7)))], [.int (i32 s895)], (mhp (mO m882 [] [(113, upI (m60.2 113) ((4 * (m.1 26)) + ((m60.2 51) (m.1 26))) (m868.1 7))]) c, N), 0, 0) (Q_takeTable m c N) := by
                        intro s895 q899 ic897 ic898
                        obtain ⟨q899a, q899b⟩ := id q899
                        refine T_sto 336 [(2, .int (i32 s895)), (0, .ref 189), (1, .int (i32 (m.1 26))), (3, .int (i32 v59)), (4, .int (i32 ((4 * (m.1 26)) + ((m60.2 51) (m.1 26))))), (5, .int (i32 (m60.1 69))), (6, .int (i32 (m868.1 8))), (7, .int (i32 (m868.1 7)))] rfl (fun _ => rfl) ?_
                        refine T_ld 337 (.int (i32 v59)) rfl (fun _ => rfl) ?_
                        have J353_903 : ∀ (s902 : Int), (R32 s902) → (0 ≤ s902) → (s902 ≤ 1) → TT w D pm_275 (353, [(0, .ref 189), (1, .int (i32 (m.1 26))), (2, .int (i32 s895)), (3, .int (i32 v59)), (4, .int (i32 ((4 * (m.1 26)) + ((m60.2 51) (m.1 26))))), (5, .int (i32 (m60.1 69))), (6, .int (i32 (m868.1 8))), (7, .int (i32 (m868.1 7)))], [.int (i32 s902)], (mhp (mO m882 [] [(113, upI (m60.2 113) ((4 * (m.1 26)) + ((m60.2 51) (m.1 26))) (m868.1 7))]) c, N), 0, 0) (Q_takeTable m c N) := by
                          intro s902 q906 ic904 ic905
                          obtain ⟨q906a, q906b⟩ := id q906
                          refine T_sto 354 [(3, .int (i32 s902)), (0, .ref 189), (1, .int (i32 (m.1 26))), (2, .int (i32 s895)), (4, .int (i32 ((4 * (m.1 26)) + ((m60.2 51) (m.1 26))))), (5, .int (i32 (m60.1 69))), (6, .int (i32 (m868.1 8))), (7, .int (i32 (m868.1 7)))] rfl (fun _ => rfl) ?_
                          refine T_ld 355 (.ref 189) rfl (fun _ => rfl) ?_
                          refine T_ld 357 (.int (i32 59)) rfl (fun _ => rfl) ?_
                          refine T_call 360 232 [.ref 189, .int (i32 59)] [] rfl (fun _ => rfl) rfl (d_need w (mO m882 [] [(113, upI (m60.2 113) ((4 * (m.1 26)) + ((m60.2 51) (m.1 26))) (m868.1 7))]) c N D (by omega) (Ty_mO Tm882 rfl rfl trivial ⟨G894, trivial⟩) 59 ⟨by decide, by decide⟩ (show 1 ≤ (59 : Int) by omega) (show LxP (m882.1 7) (m882.1 8) (m882.1 9) (m882.1 6) (m882.1 10) by rewrite [(show (m882.1 6) = (m.1 6) from ((fr1 Fm882 6 rfl).trans ((fr1 Fm868 6 rfl).trans ((fr1 Fm250 6 rfl).trans ((fr1 Fm60 6 rfl).trans ((fr1 Fm44 6 rfl).trans ((fr1 Fm18 6 rfl).trans (fr1 Fm4 6 rfl))))))))]; first | exact hLx | (intro h9; exfalso; omega) | (intro h9; have h8 := hLx (by omega); omega))) (fun rr909 k910 => ?_)
                          obtain ⟨m911, Tm911, Fm911, h912, h913, h914, h915, rfl⟩ := k910
                          refine ⟨_, _, rfl, ?_⟩
                          refine T_nb (st' := []) rfl ?_
                          have g916 : 0 ≤ m911.1 7 ∧ m911.1 7 ≤ 330 := Tm911.1 7
                          have g917 : 0 ≤ m911.1 8 ∧ m911.1 8 ≤ 4000 := Tm911.1 8
                          have g918 : 0 ≤ m911.1 9 ∧ m911.1 9 ≤ 4000 := Tm911.1 9
                          have g919 : 0 ≤ m911.1 10 ∧ m911.1 10 ≤ 8 := Tm911.1 10
                          have g920 : (-1) ≤ m911.1 11 ∧ m911.1 11 ≤ 4000 := Tm911.1 11
                          replace h912 : LxP (m911.1 7) (m911.1 8) (m911.1 9) (m882.1 6) (m911.1 10) := h912
                          rewrite [(show (m882.1 6) = (m.1 6) from ((fr1 Fm882 6 rfl).trans ((fr1 Fm868 6 rfl).trans ((fr1 Fm250 6 rfl).trans ((fr1 Fm60 6 rfl).trans ((fr1 Fm44 6 rfl).trans ((fr1 Fm18 6 rfl).trans (fr1 Fm4 6 rfl))))))))] at h912
                          replace h913 : (m911.1 10) = 0 → (m882.1 10) = 0 ∧ (m882.1 7) = (59 : Int) := h913
                          replace h914 : (m882.1 8) ≤ (m911.1 8) := h914
                          replace h915 : (m911.1 10) = 0 → (m882.1 8) + (m882.1 9) ≤ (m911.1 8) := h915
                          have hf921 : 1 ≤ (m911.1 10) := by omega
                          clear h913
                          clear h915
                          have hLx := h912
                          clear q70a q70b q70 q71a q71b q71 ic62 ic63 ic64 ic65 ic67 ic68 g887 g888 g889 g890 g891 hf892 h883 h885 h893 h914
                          refine T_gf 364 (.ref 221) rfl rfl rfl rfl rfl rfl ?_
                          refine T_ld 365 (.int (i32 (m.1 26))) rfl (fun _ => rfl) ?_
                          refine T_dup2 366 rfl (fun _ => rfl) ?_
                          refine T_iald 367 51 (m60.2 51) rfl rfl rfl (by omega) (show (m.1 26) < (8 : Int) by omega) (show (m911.2 51) = (m60.2 51) from ((fr2 Fm911 51 rfl).trans ((fr2 Fm882 51 rfl).trans ((fr2 Fm868 51 rfl).trans (fr2 Fm250 51 rfl))))) ?_
                          have e922 : 0 ≤ (m60.2 51) (m.1 26) ∧ (m60.2 51) (m.1 26) ≤ 4 := (Tm60.2.1 51) (m.1 26)
                          refine T_ld 368 (.int (i32 1)) rfl (fun _ => rfl) ?_
                          refine T_iadd 369 rfl rfl ?_
                          have G923 : ∀ j, 0 ≤ (upI (m60.2 51) (m.1 26) (((m60.2 51) (m.1 26)) + 1)) j ∧ (upI (m60.2 51) (m.1 26) (((m60.2 51) (m.1 26)) + 1)) j ≤ 4 := upI_rg (Tm60.2.1 51) ⟨by omega, by omega⟩
                          refine T_iast (a' := [(51, upI (m60.2 51) (m.1 26) (((m60.2 51) (m.1 26)) + 1))]) 370 51 (m60.2 51) rfl rfl rfl (by omega) (show (m.1 26) < (8 : Int) by omega) (show (m911.2 51) = (m60.2 51) from ((fr2 Fm911 51 rfl).trans ((fr2 Fm882 51 rfl).trans ((fr2 Fm868 51 rfl).trans (fr2 Fm250 51 rfl))))) rfl ?_
                          refine T_gf 374 (.ref 222) rfl rfl rfl rfl rfl rfl ?_
                          refine T_ld 375 (.int (i32 (m.1 26))) rfl (fun _ => rfl) ?_
                          refine T_dup2 376 rfl (fun _ => rfl) ?_
                          refine T_iald 377 52 (m60.2 52) rfl rfl rfl (by omega) (show (m.1 26) < (8 : Int) by omega) (show (m911.2 52) = (m60.2 52) from ((fr2 Fm911 52 rfl).trans ((fr2 Fm882 52 rfl).trans ((fr2 Fm868 52 rfl).trans (fr2 Fm250 52 rfl))))) ?_
                          have e924 : 0 ≤ (m60.2 52) (m.1 26) ∧ (m60.2 52) (m.1 26) ≤ 4096 := (Tm60.2.1 52) (m.1 26)
                          refine T_ld 379 (.int (i32 (m60.1 69))) rfl (fun _ => rfl) ?_
                          refine T_iadd 380 rfl rfl ?_
                          have G925 : ∀ j, 0 ≤ (upI (m60.2 52) (m.1 26) (((m60.2 52) (m.1 26)) + (m60.1 69))) j ∧ (upI (m60.2 52) (m.1 26) (((m60.2 52) (m.1 26)) + (m60.1 69))) j ≤ 4096 := upI_rg (Tm60.2.1 52) ⟨by omega, by omega⟩
                          refine T_iast (a' := [(51, upI (m60.2 51) (m.1 26) (((m60.2 51) (m.1 26)) + 1)), (52, upI (m60.2 52) (m.1 26) (((m60.2 52) (m.1 26)) + (m60.1 69)))]) 381 52 (m60.2 52) rfl rfl rfl (by omega) (show (m.1 26) < (8 : Int) by omega) (show (m911.2 52) = (m60.2 52) from ((fr2 Fm911 52 rfl).trans ((fr2 Fm882 52 rfl).trans ((fr2 Fm868 52 rfl).trans (fr2 Fm250 52 rfl))))) rfl ?_
                          refine T_goto 101 rfl (fun _ => rfl) ?_
                          refine Tm_lv (a := [(0, .ref 189), (1, .int (i32 (m.1 26))), (2, .int (i32 s895)), (3, .int (i32 s902))]) rfl rfl ⟨rfl, rfl, rfl, rfl, trivial⟩ ?_
                          exact ih75 s895 s902 (mO m911 [] [(51, upI (m60.2 51) (m.1 26) (((m60.2 51) (m.1 26)) + 1)), (52, upI (m60.2 52) (m.1 26) (((m60.2 52) (m.1 26)) + (m60.1 69)))]) (r32 (by omega) (by omega)) (r32 (by omega) (by omega)) (Ty_mO Tm911 rfl rfl trivial ⟨G923, G925, trivial⟩) (fr_m (fr_s Fm911 (fr_m (fr_s Fm882 (fr_m (fr_s Fm868 (fr_m (fr_s Fm250 (fr_m (fr_s Fm60 (fr_m fr_0 rfl rfl) rfl rfl) rfl rfl) rfl rfl) rfl rfl) rfl rfl) rfl rfl) rfl rfl) rfl rfl) rfl rfl) rfl rfl) (show 0 ≤ s895 by omega) (show s895 ≤ 1 by omega) (show 0 ≤ s902 by omega) (show s902 ≤ 1 by omega) (show LxP (m911.1 7) (m911.1 8) (m911.1 9) (m.1 6) (m911.1 10) by first | exact hLx | exact (fun _ => hLx (by omega)) | (intro h9; exfalso; omega)) (show s895 = 0 ∨ s895 = 1 by omega) (show s902 = 0 ∨ s902 = 1 by omega) (show (upI (m60.2 52) (m.1 26) (((m60.2 52) (m.1 26)) + (m60.1 69))) (m.1 26) ≤ 1024 * (upI (m60.2 51) (m.1 26) (((m60.2 51) (m.1 26)) + 1)) (m.1 26) by rw [upI_s, upI_s]; omega) (fun (h : (m911.1 10) = 0) => absurd h (by omega)) (show 1000000 * (8 - (m911.1 10)) + (4000 - (m911.1 8)) < (n74 : Int) by omega)
                        refine T_if 348 340 rfl rfl rfl (r32 (by omega) (by omega)) (fun (h926 : v59 ≠ 0) => ?_) (fun (h926 : ¬ (v59 ≠ 0)) => ?_)
                        · skip
                          refine T_ld 349 (.int (i32 1)) rfl (fun _ => rfl) ?_
                          refine T_goto 353 rfl (fun _ => rfl) ?_
                          refine Tm_lv (a := [(0, .ref 189), (1, .int (i32 (m.1 26))), (2, .int (i32 s895)), (3, .int (i32 v59)), (4, .int (i32 ((4 * (m.1 26)) + ((m60.2 51) (m.1 26))))), (5, .int (i32 (m60.1 69))), (6, .int (i32 (m868.1 8))), (7, .int (i32 (m868.1 7)))]) rfl rfl ⟨rfl, rfl, rfl, rfl, rfl, rfl, rfl, rfl, trivial⟩ ?_
                          exact J353_903 1 ⟨by decide, by decide⟩ (show 0 ≤ (1 : Int) by omega) (show (1 : Int) ≤ 1 by omega)
                        · skip
                          refine T_ld 342 (.int (i32 (m868.1 7))) rfl (fun _ => rfl) ?_
                          refine T_ld 345 (.int (i32 314)) rfl (fun _ => rfl) ?_
                          refine T_icmp 352 348 rfl rfl rfl (r32 (by omega) (by omega)) ⟨by decide, by decide⟩ (fun (h927 : (m868.1 7) ≠ 314) => ?_) (fun (h927 : ¬ ((m868.1 7) ≠ 314)) => ?_)
                          · skip
                            refine T_ld 353 (.int (i32 0)) rfl (fun _ => rfl) ?_
                            refine Tm_lv (a := [(0, .ref 189), (1, .int (i32 (m.1 26))), (2, .int (i32 s895)), (3, .int (i32 v59)), (4, .int (i32 ((4 * (m.1 26)) + ((m60.2 51) (m.1 26))))), (5, .int (i32 (m60.1 69))), (6, .int (i32 (m868.1 8))), (7, .int (i32 (m868.1 7)))]) rfl rfl ⟨rfl, rfl, rfl, rfl, rfl, rfl, rfl, rfl, trivial⟩ ?_
                            exact J353_903 0 ⟨by decide, by decide⟩ (show 0 ≤ (0 : Int) by omega) (show (0 : Int) ≤ 1 by omega)
                          · skip
                            refine T_ld 349 (.int (i32 1)) rfl (fun _ => rfl) ?_
                            refine T_goto 353 rfl (fun _ => rfl) ?_
                            refine Tm_lv (a := [(0, .ref 189), (1, .int (i32 (m.1 26))), (2, .int (i32 s895)), (3, .int (i32 v59)), (4, .int (i32 ((4 * (m.1 26)) + ((m60.2 51) (m.1 26))))), (5, .int (i32 (m60.1 69))), (6, .int (i32 (m868.1 8))), (7, .int (i32 (m868.1 7)))]) rfl rfl ⟨rfl, rfl, rfl, rfl, rfl, rfl, rfl, rfl, trivial⟩ ?_
                            exact J353_903 1 ⟨by decide, by decide⟩ (show 0 ≤ (1 : Int) by omega) (show (1 : Int) ≤ 1 by omega)
                      refine T_if 330 322 rfl rfl rfl (r32 (by omega) (by omega)) (fun (h928 : v58 ≠ 0) => ?_) (fun (h928 : ¬ (v58 ≠ 0)) => ?_)
                      · skip
                        refine T_ld 331 (.int (i32 1)) rfl (fun _ => rfl) ?_
                        refine T_goto 335 rfl (fun _ => rfl) ?_
                        refine Tm_lv (a := [(0, .ref 189), (1, .int (i32 (m.1 26))), (2, .int (i32 v58)), (3, .int (i32 v59)), (4, .int (i32 ((4 * (m.1 26)) + ((m60.2 51) (m.1 26))))), (5, .int (i32 (m60.1 69))), (6, .int (i32 (m868.1 8))), (7, .int (i32 (m868.1 7)))]) rfl rfl ⟨rfl, rfl, rfl, rfl, rfl, rfl, rfl, rfl, trivial⟩ ?_
                        exact J335_896 1 ⟨by decide, by decide⟩ (show 0 ≤ (1 : Int) by omega) (show (1 : Int) ≤ 1 by omega)
                      · skip
                        refine T_ld 324 (.int (i32 (m868.1 7))) rfl (fun _ => rfl) ?_
                        refine T_ld 327 (.int (i32 313)) rfl (fun _ => rfl) ?_
                        refine T_icmp 334 330 rfl rfl rfl (r32 (by omega) (by omega)) ⟨by decide, by decide⟩ (fun (h929 : (m868.1 7) ≠ 313) => ?_) (fun (h929 : ¬ ((m868.1 7) ≠ 313)) => ?_)
                        · skip
                          refine T_ld 335 (.int (i32 0)) rfl (fun _ => rfl) ?_
                          refine Tm_lv (a := [(0, .ref 189), (1, .int (i32 (m.1 26))), (2, .int (i32 v58)), (3, .int (i32 v59)), (4, .int (i32 ((4 * (m.1 26)) + ((m60.2 51) (m.1 26))))), (5, .int (i32 (m60.1 69))), (6, .int (i32 (m868.1 8))), (7, .int (i32 (m868.1 7)))]) rfl rfl ⟨rfl, rfl, rfl, rfl, rfl, rfl, rfl, rfl, trivial⟩ ?_
                          exact J335_896 0 ⟨by decide, by decide⟩ (show 0 ≤ (0 : Int) by omega) (show (0 : Int) ≤ 1 by omega)
                        · skip
                          refine T_ld 331 (.int (i32 1)) rfl (fun _ => rfl) ?_
                          refine T_goto 335 rfl (fun _ => rfl) ?_
                          refine Tm_lv (a := [(0, .ref 189), (1, .int (i32 (m.1 26))), (2, .int (i32 v58)), (3, .int (i32 v59)), (4, .int (i32 ((4 * (m.1 26)) + ((m60.2 51) (m.1 26))))), (5, .int (i32 (m60.1 69))), (6, .int (i32 (m868.1 8))), (7, .int (i32 (m868.1 7)))]) rfl rfl ⟨rfl, rfl, rfl, rfl, rfl, rfl, rfl, rfl, trivial⟩ ?_
                          exact J335_896 1 ⟨by decide, by decide⟩ (show 0 ≤ (1 : Int) by omega) (show (1 : Int) ≤ 1 by omega)
                  · skip
                    refine T_ld 129 (.ref 189) rfl (fun _ => rfl) ?_
                    refine T_ld 130 (.int (i32 4)) rfl (fun _ => rfl) ?_
                    refine T_gf 134 (.int (i32 (m60.1 8))) rfl rfl rfl rfl rfl rfl ?_
                    refine T_call 137 222 [.ref 189, .int (i32 4), .int (i32 (m60.1 8))] [] rfl (fun _ => rfl) rfl (d_wrong w (mO m60 [] []) c N D (by omega) Tm60 4 (m60.1 8) ⟨by decide, by decide⟩ (r32 (by omega) (by omega)) (show 1 ≤ (4 : Int) ∧ (4 : Int) ≤ 8 by omega) (show 0 ≤ (m60.1 8) ∧ (m60.1 8) ≤ 4000 by omega)) (fun rr930 k931 => ?_)
                    obtain ⟨m932, Tm932, Fm932, h933, rfl⟩ := k931
                    refine ⟨_, _, rfl, ?_⟩
                    refine T_nb (st' := []) rfl ?_
                    have g934 : 0 ≤ m932.1 10 ∧ m932.1 10 ≤ 8 := Tm932.1 10
                    have g935 : (-1) ≤ m932.1 11 ∧ m932.1 11 ≤ 4000 := Tm932.1 11
                    replace h933 : (0 < (m60.1 10) → (m932.1 10) = (m60.1 10) ∧ (m932.1 11) = (m60.1 11)) ∧ ((m60.1 10) ≤ 0 → (m932.1 10) = (4 : Int) ∧ (m932.1 11) = (m60.1 8)) := h933
                    have hf936 : 1 ≤ (m932.1 10) := by omega
                    clear g49 g50 g51 g52 g53 h45 u55 h56 h57 q72_11 h933
                    refine T_gf 141 (.int (i32 (m932.1 10))) rfl rfl rfl rfl rfl rfl ?_
                    refine T_if 145 144 rfl rfl rfl (r32 (by omega) (by omega)) (fun (h937 : (m932.1 10) ≤ 0) => by exfalso; omega) (fun (h937 : ¬ ((m932.1 10) ≤ 0)) => ?_)
                    refine T_ret rfl (fun _ => rfl) ?_
                    exact ⟨(mO m932 [] []), Tm932, (fr_m (fr_s Fm932 (fr_m (fr_s Fm60 (fr_m (fr_s Fm44 (fr_m (fr_s Fm18 (fr_m (fr_s Fm4 (fr_m fr_0 rfl rfl) rfl rfl) rfl rfl) rfl rfl) rfl rfl) rfl rfl) rfl rfl) rfl rfl) rfl rfl) rfl rfl) rfl rfl), (show (m932.1 10) = 0 → (m.1 10) = 0 by omega), (show LxP (m932.1 7) (m932.1 8) (m932.1 9) (m.1 6) (m932.1 10) by rewrite [(show (m932.1 7) = (m60.1 7) from (fr1 Fm932 7 rfl)), (show (m932.1 8) = (m60.1 8) from (fr1 Fm932 8 rfl)), (show (m932.1 9) = (m60.1 9) from (fr1 Fm932 9 rfl))]; first | (first | exact hLx | exact (fun _ => hLx (by omega)) | (intro h9; exfalso; omega)) | (exfalso; omega)), (show ∀ k, (m932.2 14) k + (m932.2 15) k ≤ 4000 by rewrite [(show (m932.2 14) = (m18.2 14) from ((fr2 Fm932 14 rfl).trans ((fr2 Fm60 14 rfl).trans (fr2 Fm44 14 rfl)))), (show (m932.2 15) = (m18.2 15) from ((fr2 Fm932 15 rfl).trans ((fr2 Fm60 15 rfl).trans (fr2 Fm44 15 rfl))))]; first | (exact hNM) | (exfalso; omega)), (fun (h : (m932.1 10) = 0) => absurd h (by omega)), rfl⟩
              · skip
                clear c73
                have hf938 : 1 ≤ (m60.1 10) := by omega
                refine T_gf 105 (.int (i32 (m60.1 10))) rfl rfl rfl rfl rfl rfl ?_
                refine T_if 384 108 rfl rfl rfl (r32 (by omega) (by omega)) (fun (h939 : (m60.1 10) ≠ 0) => ?_) (fun (h939 : ¬ ((m60.1 10) ≠ 0)) => by exfalso; omega)
                refine T_gf 388 (.ref 228) rfl rfl rfl rfl rfl rfl ?_
                refine T_ld 389 (.int (i32 (m.1 26))) rfl (fun _ => rfl) ?_
                refine T_ld 390 (.int (i32 v58)) rfl (fun _ => rfl) ?_
                have J402_941 : ∀ (s940 : Int), (R32 s940) → (0 ≤ s940) → (s940 ≤ 1) → TT w D pm_275 (402, [(0, .ref 189), (1, .int (i32 (m.1 26))), (2, .int (i32 v58)), (3, .int (i32 v59))], [.int (i32 s940), .int (i32 (m.1 26)), .ref 228], (mhp (mO m60 [] []) c, N), 0, 0) (Q_takeTable m c N) := by
                  intro s940 q944 ic942 ic943
                  obtain ⟨q944a, q944b⟩ := id q944
                  have G947 : ∀ j, 0 ≤ (upI (upI (m.2 58) (m.1 26) 1) (m.1 26) s940) j ∧ (upI (upI (m.2 58) (m.1 26) 1) (m.1 26) s940) j ≤ 1 := upI_rg G40 ⟨by omega, by omega⟩
                  refine T_bast (a' := [(58, upI (upI (m.2 58) (m.1 26) 1) (m.1 26) s940)]) 403 58 (upI (m.2 58) (m.1 26) 1) rfl rfl rfl (by omega) (show (m.1 26) < (8 : Int) by omega) (by omega) (show (m60.2 58) = (upI (m.2 58) (m.1 26) 1) from ((fr2 Fm60 58 rfl).trans (fr2 Fm44 58 rfl))) rfl ?_
                  refine T_ld 404 (.ref 189) rfl (fun _ => rfl) ?_
                  refine T_ld 405 (.int (i32 (m.1 26))) rfl (fun _ => rfl) ?_
                  refine T_call 408 276 [.ref 189, .int (i32 (m.1 26))] [] rfl (fun _ => rfl) rfl (c_takeList w (mO m60 [] [(58, upI (upI (m.2 58) (m.1 26) 1) (m.1 26) s940)]) c N D (by omega) (Ty_mO Tm60 rfl rfl trivial ⟨G947, trivial⟩) (m.1 26) (r32 (by omega) (by omega)) (show LxP (m60.1 7) (m60.1 8) (m60.1 9) (m60.1 6) (m60.1 10) by rewrite [(show (m60.1 6) = (m.1 6) from ((fr1 Fm60 6 rfl).trans ((fr1 Fm44 6 rfl).trans ((fr1 Fm18 6 rfl).trans (fr1 Fm4 6 rfl)))))]; first | exact hLx | exact (fun _ => hLx (by omega)) | (intro h9; exfalso; omega)) (show ∀ k, (m60.2 14) k + (m60.2 15) k ≤ 4000 by rewrite [(show (m60.2 14) = (m18.2 14) from ((fr2 Fm60 14 rfl).trans (fr2 Fm44 14 rfl))), (show (m60.2 15) = (m18.2 15) from ((fr2 Fm60 15 rfl).trans (fr2 Fm44 15 rfl)))]; assumption) (show 0 ≤ (m.1 26) ∧ (m.1 26) ≤ 7 by omega) (fun (h : (m60.1 10) = 0) => absurd h (by omega))) (fun rr948 k949 => ?_)
                  obtain ⟨m950, Tm950, Fm950, h951, h952, c953, rfl⟩ := k949
                  refine ⟨_, _, rfl, ?_⟩
                  refine T_nb (st' := []) rfl ?_
                  have g954 : 0 ≤ m950.1 7 ∧ m950.1 7 ≤ 330 := Tm950.1 7
                  have g955 : 0 ≤ m950.1 8 ∧ m950.1 8 ≤ 4000 := Tm950.1 8
                  have g956 : 0 ≤ m950.1 9 ∧ m950.1 9 ≤ 4000 := Tm950.1 9
                  have g957 : 0 ≤ m950.1 10 ∧ m950.1 10 ≤ 8 := Tm950.1 10
                  have g958 : (-1) ≤ m950.1 11 ∧ m950.1 11 ≤ 4000 := Tm950.1 11
                  replace h951 : (m950.1 10) = 0 → (m60.1 10) = 0 := h951
                  replace h952 : LxP (m950.1 7) (m950.1 8) (m950.1 9) (m60.1 6) (m950.1 10) := h952
                  rewrite [(show (m60.1 6) = (m.1 6) from ((fr1 Fm60 6 rfl).trans ((fr1 Fm44 6 rfl).trans ((fr1 Fm18 6 rfl).trans (fr1 Fm4 6 rfl)))))] at h952
                  have hf959 : 1 ≤ (m950.1 10) := by omega
                  clear c953
                  clear h951
                  have hLx := h952
                  clear g49 g50 g51 g52 g53 h45 u55 h56 h57 q72_7 q72_9 q72_11 ic66
                  refine T_ld 409 (.ref 189) rfl (fun _ => rfl) ?_
                  refine T_ld 410 (.int (i32 (m.1 26))) rfl (fun _ => rfl) ?_
                  refine T_call 413 277 [.ref 189, .int (i32 (m.1 26))] [] rfl (fun _ => rfl) rfl (c_takeElse w (mO m950 [] []) c N D (by omega) Tm950 (m.1 26) (r32 (by omega) (by omega)) (show LxP (m950.1 7) (m950.1 8) (m950.1 9) (m950.1 6) (m950.1 10) by rewrite [(show (m950.1 6) = (m.1 6) from ((fr1 Fm950 6 rfl).trans ((fr1 Fm60 6 rfl).trans ((fr1 Fm44 6 rfl).trans ((fr1 Fm18 6 rfl).trans (fr1 Fm4 6 rfl))))))]; first | exact hLx | exact (fun _ => hLx (by omega)) | (intro h9; exfalso; omega)) (show ∀ k, (m950.2 14) k + (m950.2 15) k ≤ 4000 by rewrite [(show (m950.2 14) = (m18.2 14) from ((fr2 Fm950 14 rfl).trans ((fr2 Fm60 14 rfl).trans (fr2 Fm44 14 rfl)))), (show (m950.2 15) = (m18.2 15) from ((fr2 Fm950 15 rfl).trans ((fr2 Fm60 15 rfl).trans (fr2 Fm44 15 rfl))))]; assumption) (show 0 ≤ (m.1 26) ∧ (m.1 26) ≤ 7 by omega) (fun (h : (m950.1 10) = 0) => absurd h (by omega))) (fun rr960 k961 => ?_)
                  obtain ⟨m962, Tm962, Fm962, h963, h964, c965, rfl⟩ := k961
                  refine ⟨_, _, rfl, ?_⟩
                  refine T_nb (st' := []) rfl ?_
                  have g966 : 0 ≤ m962.1 7 ∧ m962.1 7 ≤ 330 := Tm962.1 7
                  have g967 : 0 ≤ m962.1 8 ∧ m962.1 8 ≤ 4000 := Tm962.1 8
                  have g968 : 0 ≤ m962.1 9 ∧ m962.1 9 ≤ 4000 := Tm962.1 9
                  have g969 : 0 ≤ m962.1 10 ∧ m962.1 10 ≤ 8 := Tm962.1 10
                  have g970 : (-1) ≤ m962.1 11 ∧ m962.1 11 ≤ 4000 := Tm962.1 11
                  replace h963 : (m962.1 10) = 0 → (m950.1 10) = 0 := h963
                  replace h964 : LxP (m962.1 7) (m962.1 8) (m962.1 9) (m950.1 6) (m962.1 10) := h964
                  rewrite [(show (m950.1 6) = (m.1 6) from ((fr1 Fm950 6 rfl).trans ((fr1 Fm60 6 rfl).trans ((fr1 Fm44 6 rfl).trans ((fr1 Fm18 6 rfl).trans (fr1 Fm4 6 rfl))))))] at h964
                  have hf971 : 1 ≤ (m962.1 10) := by omega
                  clear c965
                  clear h963
                  have hLx := h964
                  clear g954 g955 g956 g957 g958 hf959 h952
                  refine T_ld 414 (.ref 189) rfl (fun _ => rfl) ?_
                  refine T_ld 415 (.int (i32 (m.1 26))) rfl (fun _ => rfl) ?_
                  refine T_call 418 278 [.ref 189, .int (i32 (m.1 26))] [] rfl (fun _ => rfl) rfl (c_takeRoom w (mO m962 [] []) c N D (by omega) Tm962 (m.1 26) (r32 (by omega) (by omega)) (show LxP (m962.1 7) (m962.1 8) (m962.1 9) (m962.1 6) (m962.1 10) by rewrite [(show (m962.1 6) = (m.1 6) from ((fr1 Fm962 6 rfl).trans ((fr1 Fm950 6 rfl).trans ((fr1 Fm60 6 rfl).trans ((fr1 Fm44 6 rfl).trans ((fr1 Fm18 6 rfl).trans (fr1 Fm4 6 rfl)))))))]; first | exact hLx | exact (fun _ => hLx (by omega)) | (intro h9; exfalso; omega)) (show 0 ≤ (m.1 26) ∧ (m.1 26) ≤ 7 by omega) (fun (h : (m962.1 10) = 0) => absurd h (by omega))) (fun rr972 k973 => ?_)
                  obtain ⟨m974, Tm974, Fm974, h975, h976, c977, rfl⟩ := k973
                  refine ⟨_, _, rfl, ?_⟩
                  refine T_nb (st' := []) rfl ?_
                  have g978 : 0 ≤ m974.1 7 ∧ m974.1 7 ≤ 330 := Tm974.1 7
                  have g979 : 0 ≤ m974.1 8 ∧ m974.1 8 ≤ 4000 := Tm974.1 8
                  have g980 : 0 ≤ m974.1 9 ∧ m974.1 9 ≤ 4000 := Tm974.1 9
                  have g981 : 0 ≤ m974.1 10 ∧ m974.1 10 ≤ 8 := Tm974.1 10
                  have g982 : (-1) ≤ m974.1 11 ∧ m974.1 11 ≤ 4000 := Tm974.1 11
                  replace h975 : (m974.1 10) = 0 → (m962.1 10) = 0 := h975
                  replace h976 : LxP (m974.1 7) (m974.1 8) (m974.1 9) (m962.1 6) (m974.1 10) := h976
                  rewrite [(show (m962.1 6) = (m.1 6) from ((fr1 Fm962 6 rfl).trans ((fr1 Fm950 6 rfl).trans ((fr1 Fm60 6 rfl).trans ((fr1 Fm44 6 rfl).trans ((fr1 Fm18 6 rfl).trans (fr1 Fm4 6 rfl)))))))] at h976
                  have hf983 : 1 ≤ (m974.1 10) := by omega
                  clear c977
                  clear h975
                  have hLx := h976
                  clear g966 g967 g968 g969 g970 hf971 h964
                  refine T_ld 419 (.ref 189) rfl (fun _ => rfl) ?_
                  refine T_ld 421 (.int (i32 125)) rfl (fun _ => rfl) ?_
                  refine T_call 424 232 [.ref 189, .int (i32 125)] [] rfl (fun _ => rfl) rfl (d_need w (mO m974 [] []) c N D (by omega) Tm974 125 ⟨by decide, by decide⟩ (show 1 ≤ (125 : Int) by omega) (show LxP (m974.1 7) (m974.1 8) (m974.1 9) (m974.1 6) (m974.1 10) by rewrite [(show (m974.1 6) = (m.1 6) from ((fr1 Fm974 6 rfl).trans ((fr1 Fm962 6 rfl).trans ((fr1 Fm950 6 rfl).trans ((fr1 Fm60 6 rfl).trans ((fr1 Fm44 6 rfl).trans ((fr1 Fm18 6 rfl).trans (fr1 Fm4 6 rfl))))))))]; first | exact hLx | (intro h9; exfalso; omega) | (intro h9; have h8 := hLx (by omega); omega))) (fun rr984 k985 => ?_)
                  obtain ⟨m986, Tm986, Fm986, h987, h988, h989, h990, rfl⟩ := k985
                  refine ⟨_, _, rfl, ?_⟩
                  refine T_nb (st' := []) rfl ?_
                  have g991 : 0 ≤ m986.1 7 ∧ m986.1 7 ≤ 330 := Tm986.1 7
                  have g992 : 0 ≤ m986.1 8 ∧ m986.1 8 ≤ 4000 := Tm986.1 8
                  have g993 : 0 ≤ m986.1 9 ∧ m986.1 9 ≤ 4000 := Tm986.1 9
                  have g994 : 0 ≤ m986.1 10 ∧ m986.1 10 ≤ 8 := Tm986.1 10
                  have g995 : (-1) ≤ m986.1 11 ∧ m986.1 11 ≤ 4000 := Tm986.1 11
                  replace h987 : LxP (m986.1 7) (m986.1 8) (m986.1 9) (m974.1 6) (m986.1 10) := h987
                  rewrite [(show (m974.1 6) = (m.1 6) from ((fr1 Fm974 6 rfl).trans ((fr1 Fm962 6 rfl).trans ((fr1 Fm950 6 rfl).trans ((fr1 Fm60 6 rfl).trans ((fr1 Fm44 6 rfl).trans ((fr1 Fm18 6 rfl).trans (fr1 Fm4 6 rfl))))))))] at h987
                  replace h988 : (m986.1 10) = 0 → (m974.1 10) = 0 ∧ (m974.1 7) = (125 : Int) := h988
                  replace h989 : (m974.1 8) ≤ (m986.1 8) := h989
                  replace h990 : (m986.1 10) = 0 → (m974.1 8) + (m974.1 9) ≤ (m986.1 8) := h990
                  have hf996 : 1 ≤ (m986.1 10) := by omega
                  clear h988
                  clear h990
                  have hLx := h987
                  clear g978 g979 g980 g981 g982 hf983 h976 h989
                  refine T_ret rfl (fun _ => rfl) ?_
                  exact ⟨(mO m986 [] []), Tm986, (fr_m (fr_s Fm986 (fr_m (fr_s Fm974 (fr_m (fr_s Fm962 (fr_m (fr_s Fm950 (fr_m (fr_s Fm60 (fr_m (fr_s Fm44 (fr_m (fr_s Fm18 (fr_m (fr_s Fm4 (fr_m fr_0 rfl rfl) rfl rfl) rfl rfl) rfl rfl) rfl rfl) rfl rfl) rfl rfl) rfl rfl) rfl rfl) rfl rfl) rfl rfl) rfl rfl) rfl rfl) rfl rfl) rfl rfl) rfl rfl) rfl rfl), (show (m986.1 10) = 0 → (m.1 10) = 0 by omega), (show LxP (m986.1 7) (m986.1 8) (m986.1 9) (m.1 6) (m986.1 10) by first | (first | exact hLx | exact (fun _ => hLx (by omega)) | (intro h9; exfalso; omega)) | (exfalso; omega)), (show ∀ k, (m986.2 14) k + (m986.2 15) k ≤ 4000 by rewrite [(show (m986.2 14) = (m18.2 14) from ((fr2 Fm986 14 rfl).trans ((fr2 Fm974 14 rfl).trans ((fr2 Fm962 14 rfl).trans ((fr2 Fm950 14 rfl).trans ((fr2 Fm60 14 rfl).trans (fr2 Fm44 14 rfl))))))), (show (m986.2 15) = (m18.2 15) from ((fr2 Fm986 15 rfl).trans ((fr2 Fm974 15 rfl).trans ((fr2 Fm962 15 rfl).trans ((fr2 Fm950 15 rfl).trans ((fr2 Fm60 15 rfl).trans (fr2 Fm44 15 rfl)))))))]; first | (exact hNM) | (exfalso; omega)), (fun (h : (m986.1 10) = 0) => absurd h (by omega)), rfl⟩
                refine T_if 401 393 rfl rfl rfl (r32 (by omega) (by omega)) (fun (h997 : v58 ≠ 0) => ?_) (fun (h997 : ¬ (v58 ≠ 0)) => ?_)
                · skip
                  refine T_ld 402 (.int (i32 0)) rfl (fun _ => rfl) ?_
                  exact J402_941 0 ⟨by decide, by decide⟩ (show 0 ≤ (0 : Int) by omega) (show (0 : Int) ≤ 1 by omega)
                · skip
                  refine T_ld 394 (.int (i32 v59)) rfl (fun _ => rfl) ?_
                  refine T_if 401 397 rfl rfl rfl (r32 (by omega) (by omega)) (fun (h998 : v59 ≠ 0) => ?_) (fun (h998 : ¬ (v59 ≠ 0)) => ?_)
                  · skip
                    refine T_ld 402 (.int (i32 0)) rfl (fun _ => rfl) ?_
                    exact J402_941 0 ⟨by decide, by decide⟩ (show 0 ≤ (0 : Int) by omega) (show (0 : Int) ≤ 1 by omega)
                  · skip
                    refine T_ld 398 (.int (i32 1)) rfl (fun _ => rfl) ?_
                    refine T_goto 402 rfl (fun _ => rfl) ?_
                    exact J402_941 1 ⟨by decide, by decide⟩ (show 0 ≤ (1 : Int) by omega) (show (1 : Int) ≤ 1 by omega)
          refine Tm_lv (a := [(0, .ref 189), (1, .int (i32 (m.1 26))), (2, .int (i32 0)), (3, .int (i32 0))]) rfl rfl ⟨rfl, rfl, rfl, rfl, trivial⟩ ?_
          exact L101_61 ((1000000 * (8 - (m44.1 10)) + (4000 - (m44.1 8)) : Int) + 1).toNat 0 0 (mO m44 [] []) ⟨by decide, by decide⟩ ⟨by decide, by decide⟩ Tm44 (fr_m fr_0 rfl rfl) (show 0 ≤ (0 : Int) by omega) (show (0 : Int) ≤ 1 by omega) (show 0 ≤ (0 : Int) by omega) (show (0 : Int) ≤ 1 by omega) (show LxP (m44.1 7) (m44.1 8) (m44.1 9) (m.1 6) (m44.1 10) by first | exact hLx | exact (fun _ => hLx (by omega)) | (intro h9; exfalso; omega)) (show (0 : Int) = 0 ∨ (0 : Int) = 1 by omega) (show (0 : Int) = 0 ∨ (0 : Int) = 1 by omega) (show (m44.2 52) (m.1 26) ≤ 1024 * (m44.2 51) (m.1 26) by rewrite [(show (m44.2 52) = (upI (m.2 52) (m.1 26) 0) from (fr2 Fm44 52 rfl)), (show (m44.2 51) = (upI (m.2 51) (m.1 26) 0) from (fr2 Fm44 51 rfl))]; rw [upI_s, upI_s]; omega) (fun _ => ⟨(show (m.1 8) + 1 ≤ (m44.1 8) by omega), (show CN (m44.2 65) (m44.2 67) (m44.1 28) by rewrite [(show (m44.2 65) = (m.2 65) from ((fr2 Fm44 65 rfl).trans ((fr2 Fm18 65 rfl).trans (fr2 Fm4 65 rfl)))), (show (m44.2 67) = (m.2 67) from ((fr2 Fm44 67 rfl).trans ((fr2 Fm18 67 rfl).trans (fr2 Fm4 67 rfl)))), (show (m44.1 28) = (m.1 28) from ((fr1 Fm44 28 rfl).trans ((fr1 Fm18 28 rfl).trans (fr1 Fm4 28 rfl))))]; exact hCN), (show (m.1 28) ≤ (m44.1 28) by rewrite [(show (m44.1 28) = (m.1 28) from ((fr1 Fm44 28 rfl).trans ((fr1 Fm18 28 rfl).trans (fr1 Fm4 28 rfl))))]; omega), (show agr (m.2 65) (m44.2 65) (m.1 28) by rewrite [(show (m44.2 65) = (m.2 65) from ((fr2 Fm44 65 rfl).trans ((fr2 Fm18 65 rfl).trans (fr2 Fm4 65 rfl))))]; exact hAgC), (show ∀ k, 4 * (m.1 26) ≤ k → k < 4 * (m.1 26) + (m44.2 51) (m.1 26) → cdr (m44.2 65) (m44.1 28) ((m44.2 110) k) ((m44.2 111) k) by rewrite [(show (m44.2 51) = (upI (m.2 51) (m.1 26) 0) from (fr2 Fm44 51 rfl)), (show (m44.2 65) = (m.2 65) from ((fr2 Fm44 65 rfl).trans ((fr2 Fm18 65 rfl).trans (fr2 Fm4 65 rfl)))), (show (m44.1 28) = (m.1 28) from ((fr1 Fm44 28 rfl).trans ((fr1 Fm18 28 rfl).trans (fr1 Fm4 28 rfl)))), (show (m44.2 110) = (m.2 110) from ((fr2 Fm44 110 rfl).trans ((fr2 Fm18 110 rfl).trans (fr2 Fm4 110 rfl)))), (show (m44.2 111) = (m.2 111) from ((fr2 Fm44 111 rfl).trans ((fr2 Fm18 111 rfl).trans (fr2 Fm4 111 rfl))))]; exact hKY), (show agr (m.2 51) (m44.2 51) (m.1 26) by rewrite [(show (m44.2 51) = (upI (m.2 51) (m.1 26) 0) from (fr2 Fm44 51 rfl))]; first | exact hK1 | exact agr_t hK1 (agr_u (Int.le_refl _)) (Int.le_refl _)), (show agr (m.2 110) (m44.2 110) (4 * (m.1 26)) by rewrite [(show (m44.2 110) = (m.2 110) from ((fr2 Fm44 110 rfl).trans ((fr2 Fm18 110 rfl).trans (fr2 Fm4 110 rfl))))]; first | exact hK2 | exact agr_t hK2 (agr_u (by omega)) (Int.le_refl _)), (show agr (m.2 111) (m44.2 111) (4 * (m.1 26)) by rewrite [(show (m44.2 111) = (m.2 111) from ((fr2 Fm44 111 rfl).trans ((fr2 Fm18 111 rfl).trans (fr2 Fm4 111 rfl))))]; first | exact hK3 | exact agr_t hK3 (agr_u (by omega)) (Int.le_refl _))⟩) (show 1000000 * (8 - (m44.1 10)) + (4000 - (m44.1 8)) < ((((1000000 * (8 - (m44.1 10)) + (4000 - (m44.1 8)) : Int) + 1).toNat : Nat) : Int) by omega)
        · skip
          refine T_ld 98 (.ref 189) rfl (fun _ => rfl) ?_
          refine T_call 101 226 [.ref 189] [] rfl (fun _ => rfl) rfl (d_bad w (mO m44 [] []) c N D (by omega) Tm44 ) (fun rr999 k1000 => ?_)
          obtain ⟨m1001, Tm1001, Fm1001, h1002, rfl⟩ := k1000
          refine ⟨_, _, rfl, ?_⟩
          refine T_nb (st' := []) rfl ?_
          have g1003 : 0 ≤ m1001.1 10 ∧ m1001.1 10 ≤ 8 := Tm1001.1 10
          have g1004 : (-1) ≤ m1001.1 11 ∧ m1001.1 11 ≤ 4000 := Tm1001.1 11
          replace h1002 : (0 < (m44.1 10) → (m1001.1 10) = (m44.1 10) ∧ (m1001.1 11) = (m44.1 11)) ∧ ((m44.1 10) ≤ 0 → (m1001.1 10) = 1 ∧ (m1001.1 11) = (m44.1 8)) := h1002
          have hf1005 : 1 ≤ (m1001.1 10) := by omega
          clear g52 g53 h45 h56 h1002
          refine T_gf 105 (.int (i32 (m1001.1 10))) rfl rfl rfl rfl rfl rfl ?_
          refine T_if 384 108 rfl rfl rfl (r32 (by omega) (by omega)) (fun (h1006 : (m1001.1 10) ≠ 0) => ?_) (fun (h1006 : ¬ ((m1001.1 10) ≠ 0)) => by exfalso; omega)
          refine T_gf 388 (.ref 228) rfl rfl rfl rfl rfl rfl ?_
          refine T_ld 389 (.int (i32 (m.1 26))) rfl (fun _ => rfl) ?_
          refine T_ld 390 (.int (i32 0)) rfl (fun _ => rfl) ?_
          refine T_if 401 393 rfl rfl rfl ⟨by decide, by decide⟩ (fun h1007 => absurd (show (0 : Int) ≠ 0 from h1007) (by decide)) (fun _ => ?_)
          refine T_ld 394 (.int (i32 0)) rfl (fun _ => rfl) ?_
          refine T_if 401 397 rfl rfl rfl ⟨by decide, by decide⟩ (fun h1008 => absurd (show (0 : Int) ≠ 0 from h1008) (by decide)) (fun _ => ?_)
          refine T_ld 398 (.int (i32 1)) rfl (fun _ => rfl) ?_
          refine T_goto 402 rfl (fun _ => rfl) ?_
          have G1009 : ∀ j, 0 ≤ (upI (upI (m.2 58) (m.1 26) 1) (m.1 26) 1) j ∧ (upI (upI (m.2 58) (m.1 26) 1) (m.1 26) 1) j ≤ 1 := upI_rg G40 ⟨by omega, by omega⟩
          refine T_bast (a' := [(58, upI (upI (m.2 58) (m.1 26) 1) (m.1 26) 1)]) 403 58 (upI (m.2 58) (m.1 26) 1) rfl rfl rfl (by omega) (show (m.1 26) < (8 : Int) by omega) (by omega) (show (m1001.2 58) = (upI (m.2 58) (m.1 26) 1) from ((fr2 Fm1001 58 rfl).trans (fr2 Fm44 58 rfl))) rfl ?_
          refine T_ld 404 (.ref 189) rfl (fun _ => rfl) ?_
          refine T_ld 405 (.int (i32 (m.1 26))) rfl (fun _ => rfl) ?_
          refine T_call 408 276 [.ref 189, .int (i32 (m.1 26))] [] rfl (fun _ => rfl) rfl (c_takeList w (mO m1001 [] [(58, upI (upI (m.2 58) (m.1 26) 1) (m.1 26) 1)]) c N D (by omega) (Ty_mO Tm1001 rfl rfl trivial ⟨G1009, trivial⟩) (m.1 26) (r32 (by omega) (by omega)) (show LxP (m1001.1 7) (m1001.1 8) (m1001.1 9) (m1001.1 6) (m1001.1 10) by rewrite [(show (m1001.1 7) = (m44.1 7) from (fr1 Fm1001 7 rfl)), (show (m1001.1 8) = (m44.1 8) from (fr1 Fm1001 8 rfl)), (show (m1001.1 9) = (m44.1 9) from (fr1 Fm1001 9 rfl)), (show (m1001.1 6) = (m.1 6) from ((fr1 Fm1001 6 rfl).trans ((fr1 Fm44 6 rfl).trans ((fr1 Fm18 6 rfl).trans (fr1 Fm4 6 rfl)))))]; first | exact hLx | exact (fun _ => hLx (by omega)) | (intro h9; exfalso; omega)) (show ∀ k, (m1001.2 14) k + (m1001.2 15) k ≤ 4000 by rewrite [(show (m1001.2 14) = (m18.2 14) from ((fr2 Fm1001 14 rfl).trans (fr2 Fm44 14 rfl))), (show (m1001.2 15) = (m18.2 15) from ((fr2 Fm1001 15 rfl).trans (fr2 Fm44 15 rfl)))]; assumption) (show 0 ≤ (m.1 26) ∧ (m.1 26) ≤ 7 by omega) (fun (h : (m1001.1 10) = 0) => absurd h (by omega))) (fun rr1010 k1011 => ?_)
          obtain ⟨m1012, Tm1012, Fm1012, h1013, h1014, c1015, rfl⟩ := k1011
          refine ⟨_, _, rfl, ?_⟩
          refine T_nb (st' := []) rfl ?_
          have g1016 : 0 ≤ m1012.1 7 ∧ m1012.1 7 ≤ 330 := Tm1012.1 7
          have g1017 : 0 ≤ m1012.1 8 ∧ m1012.1 8 ≤ 4000 := Tm1012.1 8
          have g1018 : 0 ≤ m1012.1 9 ∧ m1012.1 9 ≤ 4000 := Tm1012.1 9
          have g1019 : 0 ≤ m1012.1 10 ∧ m1012.1 10 ≤ 8 := Tm1012.1 10
          have g1020 : (-1) ≤ m1012.1 11 ∧ m1012.1 11 ≤ 4000 := Tm1012.1 11
          replace h1013 : (m1012.1 10) = 0 → (m1001.1 10) = 0 := h1013
          replace h1014 : LxP (m1012.1 7) (m1012.1 8) (m1012.1 9) (m1001.1 6) (m1012.1 10) := h1014
          rewrite [(show (m1001.1 6) = (m.1 6) from ((fr1 Fm1001 6 rfl).trans ((fr1 Fm44 6 rfl).trans ((fr1 Fm18 6 rfl).trans (fr1 Fm4 6 rfl)))))] at h1014
          have hf1021 : 1 ≤ (m1012.1 10) := by omega
          clear c1015
          clear h1013
          have hLx := h1014
          clear g49 g50 g51 u55 h57 g1003 g1004 hf1005 h1006
          refine T_ld 409 (.ref 189) rfl (fun _ => rfl) ?_
          refine T_ld 410 (.int (i32 (m.1 26))) rfl (fun _ => rfl) ?_
          refine T_call 413 277 [.ref 189, .int (i32 (m.1 26))] [] rfl (fun _ => rfl) rfl (c_takeElse w (mO m1012 [] []) c N D (by omega) Tm1012 (m.1 26) (r32 (by omega) (by omega)) (show LxP (m1012.1 7) (m1012.1 8) (m1012.1 9) (m1012.1 6) (m1012.1 10) by rewrite [(show (m1012.1 6) = (m.1 6) from ((fr1 Fm1012 6 rfl).trans ((fr1 Fm1001 6 rfl).trans ((fr1 Fm44 6 rfl).trans ((fr1 Fm18 6 rfl).trans (fr1 Fm4 6 rfl))))))]; first | exact hLx | exact (fun _ => hLx (by omega)) | (intro h9; exfalso; omega)) (show ∀ k, (m1012.2 14) k + (m1012.2 15) k ≤ 4000 by rewrite [(show (m1012.2 14) = (m18.2 14) from ((fr2 Fm1012 14 rfl).trans ((fr2 Fm1001 14 rfl).trans (fr2 Fm44 14 rfl)))), (show (m1012.2 15) = (m18.2 15) from ((fr2 Fm1012 15 rfl).trans ((fr2 Fm1001 15 rfl).trans (fr2 Fm44 15 rfl))))]; assumption) (show 0 ≤ (m.1 26) ∧ (m.1 26) ≤ 7 by omega) (fun (h : (m1012.1 10) = 0) => absurd h (by omega))) (fun rr1022 k1023 => ?_)
          obtain ⟨m1024, Tm1024, Fm1024, h1025, h1026, c1027, rfl⟩ := k1023
          refine ⟨_, _, rfl, ?_⟩
          refine T_nb (st' := []) rfl ?_
          have g1028 : 0 ≤ m1024.1 7 ∧ m1024.1 7 ≤ 330 := Tm1024.1 7
          have g1029 : 0 ≤ m1024.1 8 ∧ m1024.1 8 ≤ 4000 := Tm1024.1 8
          have g1030 : 0 ≤ m1024.1 9 ∧ m1024.1 9 ≤ 4000 := Tm1024.1 9
          have g1031 : 0 ≤ m1024.1 10 ∧ m1024.1 10 ≤ 8 := Tm1024.1 10
          have g1032 : (-1) ≤ m1024.1 11 ∧ m1024.1 11 ≤ 4000 := Tm1024.1 11
          replace h1025 : (m1024.1 10) = 0 → (m1012.1 10) = 0 := h1025
          replace h1026 : LxP (m1024.1 7) (m1024.1 8) (m1024.1 9) (m1012.1 6) (m1024.1 10) := h1026
          rewrite [(show (m1012.1 6) = (m.1 6) from ((fr1 Fm1012 6 rfl).trans ((fr1 Fm1001 6 rfl).trans ((fr1 Fm44 6 rfl).trans ((fr1 Fm18 6 rfl).trans (fr1 Fm4 6 rfl))))))] at h1026
          have hf1033 : 1 ≤ (m1024.1 10) := by omega
          clear c1027
          clear h1025
          have hLx := h1026
          clear g1016 g1017 g1018 g1019 g1020 hf1021 h1014
          refine T_ld 414 (.ref 189) rfl (fun _ => rfl) ?_
          refine T_ld 415 (.int (i32 (m.1 26))) rfl (fun _ => rfl) ?_
          refine T_call 418 278 [.ref 189, .int (i32 (m.1 26))] [] rfl (fun _ => rfl) rfl (c_takeRoom w (mO m1024 [] []) c N D (by omega) Tm1024 (m.1 26) (r32 (by omega) (by omega)) (show LxP (m1024.1 7) (m1024.1 8) (m1024.1 9) (m1024.1 6) (m1024.1 10) by rewrite [(show (m1024.1 6) = (m.1 6) from ((fr1 Fm1024 6 rfl).trans ((fr1 Fm1012 6 rfl).trans ((fr1 Fm1001 6 rfl).trans ((fr1 Fm44 6 rfl).trans ((fr1 Fm18 6 rfl).trans (fr1 Fm4 6 rfl)))))))]; first | exact hLx | exact (fun _ => hLx (by omega)) | (intro h9; exfalso; omega)) (show 0 ≤ (m.1 26) ∧ (m.1 26) ≤ 7 by omega) (fun (h : (m1024.1 10) = 0) => absurd h (by omega))) (fun rr1034 k1035 => ?_)
          obtain ⟨m1036, Tm1036, Fm1036, h1037, h1038, c1039, rfl⟩ := k1035
          refine ⟨_, _, rfl, ?_⟩
          refine T_nb (st' := []) rfl ?_
          have g1040 : 0 ≤ m1036.1 7 ∧ m1036.1 7 ≤ 330 := Tm1036.1 7
          have g1041 : 0 ≤ m1036.1 8 ∧ m1036.1 8 ≤ 4000 := Tm1036.1 8
          have g1042 : 0 ≤ m1036.1 9 ∧ m1036.1 9 ≤ 4000 := Tm1036.1 9
          have g1043 : 0 ≤ m1036.1 10 ∧ m1036.1 10 ≤ 8 := Tm1036.1 10
          have g1044 : (-1) ≤ m1036.1 11 ∧ m1036.1 11 ≤ 4000 := Tm1036.1 11
          replace h1037 : (m1036.1 10) = 0 → (m1024.1 10) = 0 := h1037
          replace h1038 : LxP (m1036.1 7) (m1036.1 8) (m1036.1 9) (m1024.1 6) (m1036.1 10) := h1038
          rewrite [(show (m1024.1 6) = (m.1 6) from ((fr1 Fm1024 6 rfl).trans ((fr1 Fm1012 6 rfl).trans ((fr1 Fm1001 6 rfl).trans ((fr1 Fm44 6 rfl).trans ((fr1 Fm18 6 rfl).trans (fr1 Fm4 6 rfl)))))))] at h1038
          have hf1045 : 1 ≤ (m1036.1 10) := by omega
          clear c1039
          clear h1037
          have hLx := h1038
          clear g1028 g1029 g1030 g1031 g1032 hf1033 h1026
          refine T_ld 419 (.ref 189) rfl (fun _ => rfl) ?_
          refine T_ld 421 (.int (i32 125)) rfl (fun _ => rfl) ?_
          refine T_call 424 232 [.ref 189, .int (i32 125)] [] rfl (fun _ => rfl) rfl (d_need w (mO m1036 [] []) c N D (by omega) Tm1036 125 ⟨by decide, by decide⟩ (show 1 ≤ (125 : Int) by omega) (show LxP (m1036.1 7) (m1036.1 8) (m1036.1 9) (m1036.1 6) (m1036.1 10) by rewrite [(show (m1036.1 6) = (m.1 6) from ((fr1 Fm1036 6 rfl).trans ((fr1 Fm1024 6 rfl).trans ((fr1 Fm1012 6 rfl).trans ((fr1 Fm1001 6 rfl).trans ((fr1 Fm44 6 rfl).trans ((fr1 Fm18 6 rfl).trans (fr1 Fm4 6 rfl))))))))]; first | exact hLx | (intro h9; exfalso; omega) | (intro h9; have h8 := hLx (by omega); omega))) (fun rr1046 k1047 => ?_)
          obtain ⟨m1048, Tm1048, Fm1048, h1049, h1050, h1051, h1052, rfl⟩ := k1047
          refine ⟨_, _, rfl, ?_⟩
          refine T_nb (st' := []) rfl ?_
          have g1053 : 0 ≤ m1048.1 7 ∧ m1048.1 7 ≤ 330 := Tm1048.1 7
          have g1054 : 0 ≤ m1048.1 8 ∧ m1048.1 8 ≤ 4000 := Tm1048.1 8
          have g1055 : 0 ≤ m1048.1 9 ∧ m1048.1 9 ≤ 4000 := Tm1048.1 9
          have g1056 : 0 ≤ m1048.1 10 ∧ m1048.1 10 ≤ 8 := Tm1048.1 10
          have g1057 : (-1) ≤ m1048.1 11 ∧ m1048.1 11 ≤ 4000 := Tm1048.1 11
          replace h1049 : LxP (m1048.1 7) (m1048.1 8) (m1048.1 9) (m1036.1 6) (m1048.1 10) := h1049
          rewrite [(show (m1036.1 6) = (m.1 6) from ((fr1 Fm1036 6 rfl).trans ((fr1 Fm1024 6 rfl).trans ((fr1 Fm1012 6 rfl).trans ((fr1 Fm1001 6 rfl).trans ((fr1 Fm44 6 rfl).trans ((fr1 Fm18 6 rfl).trans (fr1 Fm4 6 rfl))))))))] at h1049
          replace h1050 : (m1048.1 10) = 0 → (m1036.1 10) = 0 ∧ (m1036.1 7) = (125 : Int) := h1050
          replace h1051 : (m1036.1 8) ≤ (m1048.1 8) := h1051
          replace h1052 : (m1048.1 10) = 0 → (m1036.1 8) + (m1036.1 9) ≤ (m1048.1 8) := h1052
          have hf1058 : 1 ≤ (m1048.1 10) := by omega
          clear h1050
          clear h1052
          have hLx := h1049
          clear g1040 g1041 g1042 g1043 g1044 hf1045 h1038 h1051
          refine T_ret rfl (fun _ => rfl) ?_
          exact ⟨(mO m1048 [] []), Tm1048, (fr_m (fr_s Fm1048 (fr_m (fr_s Fm1036 (fr_m (fr_s Fm1024 (fr_m (fr_s Fm1012 (fr_m (fr_s Fm1001 (fr_m (fr_s Fm44 (fr_m (fr_s Fm18 (fr_m (fr_s Fm4 (fr_m fr_0 rfl rfl) rfl rfl) rfl rfl) rfl rfl) rfl rfl) rfl rfl) rfl rfl) rfl rfl) rfl rfl) rfl rfl) rfl rfl) rfl rfl) rfl rfl) rfl rfl) rfl rfl) rfl rfl) rfl rfl), (show (m1048.1 10) = 0 → (m.1 10) = 0 by omega), (show LxP (m1048.1 7) (m1048.1 8) (m1048.1 9) (m.1 6) (m1048.1 10) by first | (first | exact hLx | exact (fun _ => hLx (by omega)) | (intro h9; exfalso; omega)) | (exfalso; omega)), (show ∀ k, (m1048.2 14) k + (m1048.2 15) k ≤ 4000 by rewrite [(show (m1048.2 14) = (m18.2 14) from ((fr2 Fm1048 14 rfl).trans ((fr2 Fm1036 14 rfl).trans ((fr2 Fm1024 14 rfl).trans ((fr2 Fm1012 14 rfl).trans ((fr2 Fm1001 14 rfl).trans (fr2 Fm44 14 rfl))))))), (show (m1048.2 15) = (m18.2 15) from ((fr2 Fm1048 15 rfl).trans ((fr2 Fm1036 15 rfl).trans ((fr2 Fm1024 15 rfl).trans ((fr2 Fm1012 15 rfl).trans ((fr2 Fm1001 15 rfl).trans (fr2 Fm44 15 rfl)))))))]; first | (exact hNM) | (exfalso; omega)), (fun (h : (m1048.1 10) = 0) => absurd h (by omega)), rfl⟩
      · skip
        replace h45 : LxP (m44.1 7) (m44.1 8) (m44.1 9) (m18.1 6) (m44.1 10) := h45
        rewrite [(show (m18.1 6) = (m.1 6) from ((fr1 Fm18 6 rfl).trans (fr1 Fm4 6 rfl)))] at h45
        have hLx := h45
        clear h46
        replace h47 : (m18.1 8) ≤ (m44.1 8) := h47
        clear h48
        have hf1059 : 1 ≤ (m44.1 10) := by omega
        clear g27 g28 g29 g30 g31 g19a g19b h20 h24 u34 h35 h47
        refine T_ld 77 (.int (i32 0)) rfl (fun _ => rfl) ?_
        refine T_sto 78 [(2, .int (i32 0)), (1, .int (i32 (m.1 26))), (0, .ref 189)] rfl (fun _ => rfl) ?_
        refine T_ld 79 (.int (i32 0)) rfl (fun _ => rfl) ?_
        refine T_sto 80 [(3, .int (i32 0)), (2, .int (i32 0)), (1, .int (i32 (m.1 26))), (0, .ref 189)] rfl (fun _ => rfl) ?_
        refine T_gf 84 (.int (i32 (m44.1 10))) rfl rfl rfl rfl rfl rfl ?_
        refine T_if 101 87 rfl rfl rfl (r32 (by omega) (by omega)) (fun (h1060 : (m44.1 10) ≠ 0) => ?_) (fun (h1060 : ¬ ((m44.1 10) ≠ 0)) => by exfalso; omega)
        refine T_gf 105 (.int (i32 (m44.1 10))) rfl rfl rfl rfl rfl rfl ?_
        refine T_if 384 108 rfl rfl rfl (r32 (by omega) (by omega)) (fun (h1061 : (m44.1 10) ≠ 0) => ?_) (fun (h1061 : ¬ ((m44.1 10) ≠ 0)) => by exfalso; omega)
        refine T_gf 388 (.ref 228) rfl rfl rfl rfl rfl rfl ?_
        refine T_ld 389 (.int (i32 (m.1 26))) rfl (fun _ => rfl) ?_
        refine T_ld 390 (.int (i32 0)) rfl (fun _ => rfl) ?_
        refine T_if 401 393 rfl rfl rfl ⟨by decide, by decide⟩ (fun h1062 => absurd (show (0 : Int) ≠ 0 from h1062) (by decide)) (fun _ => ?_)
        refine T_ld 394 (.int (i32 0)) rfl (fun _ => rfl) ?_
        refine T_if 401 397 rfl rfl rfl ⟨by decide, by decide⟩ (fun h1063 => absurd (show (0 : Int) ≠ 0 from h1063) (by decide)) (fun _ => ?_)
        refine T_ld 398 (.int (i32 1)) rfl (fun _ => rfl) ?_
        refine T_goto 402 rfl (fun _ => rfl) ?_
        have G1064 : ∀ j, 0 ≤ (upI (upI (m.2 58) (m.1 26) 1) (m.1 26) 1) j ∧ (upI (upI (m.2 58) (m.1 26) 1) (m.1 26) 1) j ≤ 1 := upI_rg G40 ⟨by omega, by omega⟩
        refine T_bast (a' := [(58, upI (upI (m.2 58) (m.1 26) 1) (m.1 26) 1)]) 403 58 (upI (m.2 58) (m.1 26) 1) rfl rfl rfl (by omega) (show (m.1 26) < (8 : Int) by omega) (by omega) (show (m44.2 58) = (upI (m.2 58) (m.1 26) 1) from (fr2 Fm44 58 rfl)) rfl ?_
        refine T_ld 404 (.ref 189) rfl (fun _ => rfl) ?_
        refine T_ld 405 (.int (i32 (m.1 26))) rfl (fun _ => rfl) ?_
        refine T_call 408 276 [.ref 189, .int (i32 (m.1 26))] [] rfl (fun _ => rfl) rfl (c_takeList w (mO m44 [] [(58, upI (upI (m.2 58) (m.1 26) 1) (m.1 26) 1)]) c N D (by omega) (Ty_mO Tm44 rfl rfl trivial ⟨G1064, trivial⟩) (m.1 26) (r32 (by omega) (by omega)) (show LxP (m44.1 7) (m44.1 8) (m44.1 9) (m44.1 6) (m44.1 10) by rewrite [(show (m44.1 6) = (m.1 6) from ((fr1 Fm44 6 rfl).trans ((fr1 Fm18 6 rfl).trans (fr1 Fm4 6 rfl))))]; first | exact hLx | exact (fun _ => hLx (by omega)) | (intro h9; exfalso; omega)) (show ∀ k, (m44.2 14) k + (m44.2 15) k ≤ 4000 by rewrite [(show (m44.2 14) = (m18.2 14) from (fr2 Fm44 14 rfl)), (show (m44.2 15) = (m18.2 15) from (fr2 Fm44 15 rfl))]; assumption) (show 0 ≤ (m.1 26) ∧ (m.1 26) ≤ 7 by omega) (fun (h : (m44.1 10) = 0) => absurd h (by omega))) (fun rr1065 k1066 => ?_)
        obtain ⟨m1067, Tm1067, Fm1067, h1068, h1069, c1070, rfl⟩ := k1066
        refine ⟨_, _, rfl, ?_⟩
        refine T_nb (st' := []) rfl ?_
        have g1071 : 0 ≤ m1067.1 7 ∧ m1067.1 7 ≤ 330 := Tm1067.1 7
        have g1072 : 0 ≤ m1067.1 8 ∧ m1067.1 8 ≤ 4000 := Tm1067.1 8
        have g1073 : 0 ≤ m1067.1 9 ∧ m1067.1 9 ≤ 4000 := Tm1067.1 9
        have g1074 : 0 ≤ m1067.1 10 ∧ m1067.1 10 ≤ 8 := Tm1067.1 10
        have g1075 : (-1) ≤ m1067.1 11 ∧ m1067.1 11 ≤ 4000 := Tm1067.1 11
        replace h1068 : (m1067.1 10) = 0 → (m44.1 10) = 0 := h1068
        replace h1069 : LxP (m1067.1 7) (m1067.1 8) (m1067.1 9) (m44.1 6) (m1067.1 10) := h1069
        rewrite [(show (m44.1 6) = (m.1 6) from ((fr1 Fm44 6 rfl).trans ((fr1 Fm18 6 rfl).trans (fr1 Fm4 6 rfl))))] at h1069
        have hf1076 : 1 ≤ (m1067.1 10) := by omega
        clear c1070
        clear h1068
        have hLx := h1069
        clear g49 g50 g51 g52 g53 h45 hf1059 h1060 h1061
        refine T_ld 409 (.ref 189) rfl (fun _ => rfl) ?_
        refine T_ld 410 (.int (i32 (m.1 26))) rfl (fun _ => rfl) ?_
        refine T_call 413 277 [.ref 189, .int (i32 (m.1 26))] [] rfl (fun _ => rfl) rfl (c_takeElse w (mO m1067 [] []) c N D (by omega) Tm1067 (m.1 26) (r32 (by omega) (by omega)) (show LxP (m1067.1 7) (m1067.1 8) (m1067.1 9) (m1067.1 6) (m1067.1 10) by rewrite [(show (m1067.1 6) = (m.1 6) from ((fr1 Fm1067 6 rfl).trans ((fr1 Fm44 6 rfl).trans ((fr1 Fm18 6 rfl).trans (fr1 Fm4 6 rfl)))))]; first | exact hLx | exact (fun _ => hLx (by omega)) | (intro h9; exfalso; omega)) (show ∀ k, (m1067.2 14) k + (m1067.2 15) k ≤ 4000 by rewrite [(show (m1067.2 14) = (m18.2 14) from ((fr2 Fm1067 14 rfl).trans (fr2 Fm44 14 rfl))), (show (m1067.2 15) = (m18.2 15) from ((fr2 Fm1067 15 rfl).trans (fr2 Fm44 15 rfl)))]; assumption) (show 0 ≤ (m.1 26) ∧ (m.1 26) ≤ 7 by omega) (fun (h : (m1067.1 10) = 0) => absurd h (by omega))) (fun rr1077 k1078 => ?_)
        obtain ⟨m1079, Tm1079, Fm1079, h1080, h1081, c1082, rfl⟩ := k1078
        refine ⟨_, _, rfl, ?_⟩
        refine T_nb (st' := []) rfl ?_
        have g1083 : 0 ≤ m1079.1 7 ∧ m1079.1 7 ≤ 330 := Tm1079.1 7
        have g1084 : 0 ≤ m1079.1 8 ∧ m1079.1 8 ≤ 4000 := Tm1079.1 8
        have g1085 : 0 ≤ m1079.1 9 ∧ m1079.1 9 ≤ 4000 := Tm1079.1 9
        have g1086 : 0 ≤ m1079.1 10 ∧ m1079.1 10 ≤ 8 := Tm1079.1 10
        have g1087 : (-1) ≤ m1079.1 11 ∧ m1079.1 11 ≤ 4000 := Tm1079.1 11
        replace h1080 : (m1079.1 10) = 0 → (m1067.1 10) = 0 := h1080
        replace h1081 : LxP (m1079.1 7) (m1079.1 8) (m1079.1 9) (m1067.1 6) (m1079.1 10) := h1081
        rewrite [(show (m1067.1 6) = (m.1 6) from ((fr1 Fm1067 6 rfl).trans ((fr1 Fm44 6 rfl).trans ((fr1 Fm18 6 rfl).trans (fr1 Fm4 6 rfl)))))] at h1081
        have hf1088 : 1 ≤ (m1079.1 10) := by omega
        clear c1082
        clear h1080
        have hLx := h1081
        clear g1071 g1072 g1073 g1074 g1075 hf1076 h1069
        refine T_ld 414 (.ref 189) rfl (fun _ => rfl) ?_
        refine T_ld 415 (.int (i32 (m.1 26))) rfl (fun _ => rfl) ?_
        refine T_call 418 278 [.ref 189, .int (i32 (m.1 26))] [] rfl (fun _ => rfl) rfl (c_takeRoom w (mO m1079 [] []) c N D (by omega) Tm1079 (m.1 26) (r32 (by omega) (by omega)) (show LxP (m1079.1 7) (m1079.1 8) (m1079.1 9) (m1079.1 6) (m1079.1 10) by rewrite [(show (m1079.1 6) = (m.1 6) from ((fr1 Fm1079 6 rfl).trans ((fr1 Fm1067 6 rfl).trans ((fr1 Fm44 6 rfl).trans ((fr1 Fm18 6 rfl).trans (fr1 Fm4 6 rfl))))))]; first | exact hLx | exact (fun _ => hLx (by omega)) | (intro h9; exfalso; omega)) (show 0 ≤ (m.1 26) ∧ (m.1 26) ≤ 7 by omega) (fun (h : (m1079.1 10) = 0) => absurd h (by omega))) (fun rr1089 k1090 => ?_)
        obtain ⟨m1091, Tm1091, Fm1091, h1092, h1093, c1094, rfl⟩ := k1090
        refine ⟨_, _, rfl, ?_⟩
        refine T_nb (st' := []) rfl ?_
        have g1095 : 0 ≤ m1091.1 7 ∧ m1091.1 7 ≤ 330 := Tm1091.1 7
        have g1096 : 0 ≤ m1091.1 8 ∧ m1091.1 8 ≤ 4000 := Tm1091.1 8
        have g1097 : 0 ≤ m1091.1 9 ∧ m1091.1 9 ≤ 4000 := Tm1091.1 9
        have g1098 : 0 ≤ m1091.1 10 ∧ m1091.1 10 ≤ 8 := Tm1091.1 10
        have g1099 : (-1) ≤ m1091.1 11 ∧ m1091.1 11 ≤ 4000 := Tm1091.1 11
        replace h1092 : (m1091.1 10) = 0 → (m1079.1 10) = 0 := h1092
        replace h1093 : LxP (m1091.1 7) (m1091.1 8) (m1091.1 9) (m1079.1 6) (m1091.1 10) := h1093
        rewrite [(show (m1079.1 6) = (m.1 6) from ((fr1 Fm1079 6 rfl).trans ((fr1 Fm1067 6 rfl).trans ((fr1 Fm44 6 rfl).trans ((fr1 Fm18 6 rfl).trans (fr1 Fm4 6 rfl))))))] at h1093
        have hf1100 : 1 ≤ (m1091.1 10) := by omega
        clear c1094
        clear h1092
        have hLx := h1093
        clear g1083 g1084 g1085 g1086 g1087 hf1088 h1081
        refine T_ld 419 (.ref 189) rfl (fun _ => rfl) ?_
        refine T_ld 421 (.int (i32 125)) rfl (fun _ => rfl) ?_
        refine T_call 424 232 [.ref 189, .int (i32 125)] [] rfl (fun _ => rfl) rfl (d_need w (mO m1091 [] []) c N D (by omega) Tm1091 125 ⟨by decide, by decide⟩ (show 1 ≤ (125 : Int) by omega) (show LxP (m1091.1 7) (m1091.1 8) (m1091.1 9) (m1091.1 6) (m1091.1 10) by rewrite [(show (m1091.1 6) = (m.1 6) from ((fr1 Fm1091 6 rfl).trans ((fr1 Fm1079 6 rfl).trans ((fr1 Fm1067 6 rfl).trans ((fr1 Fm44 6 rfl).trans ((fr1 Fm18 6 rfl).trans (fr1 Fm4 6 rfl)))))))]; first | exact hLx | (intro h9; exfalso; omega) | (intro h9; have h8 := hLx (by omega); omega))) (fun rr1101 k1102 => ?_)
        obtain ⟨m1103, Tm1103, Fm1103, h1104, h1105, h1106, h1107, rfl⟩ := k1102
        refine ⟨_, _, rfl, ?_⟩
        refine T_nb (st' := []) rfl ?_
        have g1108 : 0 ≤ m1103.1 7 ∧ m1103.1 7 ≤ 330 := Tm1103.1 7
        have g1109 : 0 ≤ m1103.1 8 ∧ m1103.1 8 ≤ 4000 := Tm1103.1 8
        have g1110 : 0 ≤ m1103.1 9 ∧ m1103.1 9 ≤ 4000 := Tm1103.1 9
        have g1111 : 0 ≤ m1103.1 10 ∧ m1103.1 10 ≤ 8 := Tm1103.1 10
        have g1112 : (-1) ≤ m1103.1 11 ∧ m1103.1 11 ≤ 4000 := Tm1103.1 11
        replace h1104 : LxP (m1103.1 7) (m1103.1 8) (m1103.1 9) (m1091.1 6) (m1103.1 10) := h1104
        rewrite [(show (m1091.1 6) = (m.1 6) from ((fr1 Fm1091 6 rfl).trans ((fr1 Fm1079 6 rfl).trans ((fr1 Fm1067 6 rfl).trans ((fr1 Fm44 6 rfl).trans ((fr1 Fm18 6 rfl).trans (fr1 Fm4 6 rfl)))))))] at h1104
        replace h1105 : (m1103.1 10) = 0 → (m1091.1 10) = 0 ∧ (m1091.1 7) = (125 : Int) := h1105
        replace h1106 : (m1091.1 8) ≤ (m1103.1 8) := h1106
        replace h1107 : (m1103.1 10) = 0 → (m1091.1 8) + (m1091.1 9) ≤ (m1103.1 8) := h1107
        have hf1113 : 1 ≤ (m1103.1 10) := by omega
        clear h1105
        clear h1107
        have hLx := h1104
        clear g1095 g1096 g1097 g1098 g1099 hf1100 h1093 h1106
        refine T_ret rfl (fun _ => rfl) ?_
        exact ⟨(mO m1103 [] []), Tm1103, (fr_m (fr_s Fm1103 (fr_m (fr_s Fm1091 (fr_m (fr_s Fm1079 (fr_m (fr_s Fm1067 (fr_m (fr_s Fm44 (fr_m (fr_s Fm18 (fr_m (fr_s Fm4 (fr_m fr_0 rfl rfl) rfl rfl) rfl rfl) rfl rfl) rfl rfl) rfl rfl) rfl rfl) rfl rfl) rfl rfl) rfl rfl) rfl rfl) rfl rfl) rfl rfl) rfl rfl) rfl rfl), (show (m1103.1 10) = 0 → (m.1 10) = 0 by omega), (show LxP (m1103.1 7) (m1103.1 8) (m1103.1 9) (m.1 6) (m1103.1 10) by first | (first | exact hLx | exact (fun _ => hLx (by omega)) | (intro h9; exfalso; omega)) | (exfalso; omega)), (show ∀ k, (m1103.2 14) k + (m1103.2 15) k ≤ 4000 by rewrite [(show (m1103.2 14) = (m18.2 14) from ((fr2 Fm1103 14 rfl).trans ((fr2 Fm1091 14 rfl).trans ((fr2 Fm1079 14 rfl).trans ((fr2 Fm1067 14 rfl).trans (fr2 Fm44 14 rfl)))))), (show (m1103.2 15) = (m18.2 15) from ((fr2 Fm1103 15 rfl).trans ((fr2 Fm1091 15 rfl).trans ((fr2 Fm1079 15 rfl).trans ((fr2 Fm1067 15 rfl).trans (fr2 Fm44 15 rfl))))))]; first | (exact hNM) | (exfalso; omega)), (fun (h : (m1103.1 10) = 0) => absurd h (by omega)), rfl⟩
    · skip
      replace h20 : LxP (m18.1 7) (m18.1 8) (m18.1 9) (m4.1 6) (m18.1 10) := h20
      rewrite [(show (m4.1 6) = (m.1 6) from (fr1 Fm4 6 rfl))] at h20
      have hLx := h20
      replace h21 : (m4.1 8) ≤ (m18.1 8) := h21
      clear h22
      clear h23
      replace h24 : nn = 1 → (m.1 26) ≠ (8 : Int) := h24
      replace h25 : ∀ k, (m18.2 14) k + (m18.2 15) k ≤ 4000 := h25
      have hNM := h25
      replace h26 : (nn = 1 ∧ (m4.1 10) = 0 ∧ (m18.1 13) = (m4.1 13) + 1 ∧ (m18.2 14) = upI (m4.2 14) (m4.1 13) (m4.1 8) ∧ (m18.2 15) = upI (m4.2 15) (m4.1 13) (m4.1 9) ∧ (m18.2 16) = upI (m4.2 16) (m4.1 13) (7 : Int) ∧ (m18.2 17) = upI (m4.2 17) (m4.1 13) (m.1 26)) ∨ (nn = 0 ∧ 0 < (m18.1 10) ∧ (m18.1 13) = (m4.1 13) ∧ (m18.2 14) = (m4.2 14) ∧ (m18.2 15) = (m4.2 15) ∧ (m18.2 16) = (m4.2 16) ∧ (m18.2 17) = (m4.2 17)) := h26
      rewrite [(show (m4.1 13) = (m.1 13) from (fr1 Fm4 13 rfl)), (show (m4.2 14) = (m.2 14) from (fr2 Fm4 14 rfl)), (show (m4.2 15) = (m.2 15) from (fr2 Fm4 15 rfl)), (show (m4.2 16) = (m.2 16) from (fr2 Fm4 16 rfl)), (show (m4.2 17) = (m.2 17) from (fr2 Fm4 17 rfl))] at h26
      have hN := h26
      have hf1114 : 1 ≤ (m18.1 10) := by omega
      clear g9 g10 g11 g12 g13 h5 h7 h8 u15 h21 h26
      refine T_if 20 19 rfl rfl rfl (r32 (by omega) (by omega)) (fun (h1115 : nn ≠ 0) => ?_) (fun (h1115 : ¬ (nn ≠ 0)) => ?_)
      · skip
        refine T_gf 24 (.int (i32 (m.1 26))) rfl rfl rfl rfl (mfv_c (F := fun x => .int (i32 x)) rfl (show (m18.1 26) = (m.1 26) from ((fr1 Fm18 26 rfl).trans (fr1 Fm4 26 rfl)))) rfl ?_
        refine T_sto 25 [(1, .int (i32 (m.1 26))), (0, .ref 189)] rfl (fun _ => rfl) ?_
        refine T_ld 26 (.ref 189) rfl (fun _ => rfl) ?_
        refine T_ld 27 (.ref 189) rfl (fun _ => rfl) ?_
        refine T_gf1 30 (.int (i32 (m.1 26))) rfl rfl (mfv_c (F := fun x => .int (i32 x)) rfl (show (m18.1 26) = (m.1 26) from ((fr1 Fm18 26 rfl).trans (fr1 Fm4 26 rfl)))) rfl ?_
        refine T_ld 31 (.int (i32 1)) rfl (fun _ => rfl) ?_
        refine T_iadd 32 rfl rfl ?_
        refine T_pf (l' := [(26, (m.1 26) + 1)]) 35 ((m.1 26) + 1) rfl rfl rfl rfl rfl rfl ?_
        have g1116 : 0 ≤ (m.1 26) + 1 ∧ (m.1 26) + 1 ≤ 8 := ⟨by omega, by omega⟩
        refine T_gf 39 (.ref 221) rfl rfl rfl rfl rfl rfl ?_
        refine T_ld 40 (.int (i32 (m.1 26))) rfl (fun _ => rfl) ?_
        refine T_ld 41 (.int (i32 0)) rfl (fun _ => rfl) ?_
        have G1117 : ∀ j, 0 ≤ (upI (m.2 51) (m.1 26) 0) j ∧ (upI (m.2 51) (m.1 26) 0) j ≤ 4 := upI_rg (hT.2.1 51) ⟨by omega, by omega⟩
        refine T_iast (a' := [(51, upI (m.2 51) (m.1 26) 0)]) 42 51 (m.2 51) rfl rfl rfl (by omega) (show (m.1 26) < (8 : Int) by omega) (show (m18.2 51) = (m.2 51) from ((fr2 Fm18 51 rfl).trans (fr2 Fm4 51 rfl))) rfl ?_
        refine T_gf 46 (.ref 222) rfl rfl rfl rfl rfl rfl ?_
        refine T_ld 47 (.int (i32 (m.1 26))) rfl (fun _ => rfl) ?_
        refine T_ld 48 (.int (i32 0)) rfl (fun _ => rfl) ?_
        have G1118 : ∀ j, 0 ≤ (upI (m.2 52) (m.1 26) 0) j ∧ (upI (m.2 52) (m.1 26) 0) j ≤ 4096 := upI_rg (hT.2.1 52) ⟨by omega, by omega⟩
        refine T_iast (a' := [(51, upI (m.2 51) (m.1 26) 0), (52, upI (m.2 52) (m.1 26) 0)]) 49 52 (m.2 52) rfl rfl rfl (by omega) (show (m.1 26) < (8 : Int) by omega) (show (m18.2 52) = (m.2 52) from ((fr2 Fm18 52 rfl).trans (fr2 Fm4 52 rfl))) rfl ?_
        refine T_gf 53 (.ref 223) rfl rfl rfl rfl rfl rfl ?_
        refine T_ld 54 (.int (i32 (m.1 26))) rfl (fun _ => rfl) ?_
        refine T_ld 55 (.int (i32 0)) rfl (fun _ => rfl) ?_
        have G1119 : ∀ j, 0 ≤ (upI (m.2 53) (m.1 26) 0) j ∧ (upI (m.2 53) (m.1 26) 0) j ≤ 8 := upI_rg (hT.2.1 53) ⟨by omega, by omega⟩
        refine T_iast (a' := [(51, upI (m.2 51) (m.1 26) 0), (52, upI (m.2 52) (m.1 26) 0), (53, upI (m.2 53) (m.1 26) 0)]) 56 53 (m.2 53) rfl rfl rfl (by omega) (show (m.1 26) < (8 : Int) by omega) (show (m18.2 53) = (m.2 53) from ((fr2 Fm18 53 rfl).trans (fr2 Fm4 53 rfl))) rfl ?_
        refine T_gf 60 (.ref 228) rfl rfl rfl rfl rfl rfl ?_
        refine T_ld 61 (.int (i32 (m.1 26))) rfl (fun _ => rfl) ?_
        refine T_ld 62 (.int (i32 1)) rfl (fun _ => rfl) ?_
        have G1120 : ∀ j, 0 ≤ (upI (m.2 58) (m.1 26) 1) j ∧ (upI (m.2 58) (m.1 26) 1) j ≤ 1 := upI_rg (hT.2.1 58) ⟨by omega, by omega⟩
        refine T_bast (a' := [(51, upI (m.2 51) (m.1 26) 0), (52, upI (m.2 52) (m.1 26) 0), (53, upI (m.2 53) (m.1 26) 0), (58, upI (m.2 58) (m.1 26) 1)]) 63 58 (m.2 58) rfl rfl rfl (by omega) (show (m.1 26) < (8 : Int) by omega) (by omega) (show (m18.2 58) = (m.2 58) from ((fr2 Fm18 58 rfl).trans (fr2 Fm4 58 rfl))) rfl ?_
        refine T_gf 67 (.ref 229) rfl rfl rfl rfl rfl rfl ?_
        refine T_ld 68 (.int (i32 (m.1 26))) rfl (fun _ => rfl) ?_
        refine T_ld 69 (.int (i32 0)) rfl (fun _ => rfl) ?_
        have G1121 : ∀ j, 0 ≤ (upI (m.2 59) (m.1 26) 0) j ∧ (upI (m.2 59) (m.1 26) 0) j ≤ 1 := upI_rg (hT.2.1 59) ⟨by omega, by omega⟩
        refine T_bast (a' := [(51, upI (m.2 51) (m.1 26) 0), (52, upI (m.2 52) (m.1 26) 0), (53, upI (m.2 53) (m.1 26) 0), (58, upI (m.2 58) (m.1 26) 1), (59, upI (m.2 59) (m.1 26) 0)]) 70 59 (m.2 59) rfl rfl rfl (by omega) (show (m.1 26) < (8 : Int) by omega) (by omega) (show (m18.2 59) = (m.2 59) from ((fr2 Fm18 59 rfl).trans (fr2 Fm4 59 rfl))) rfl ?_
        refine T_ld 71 (.ref 189) rfl (fun _ => rfl) ?_
        refine T_ld 73 (.int (i32 123)) rfl (fun _ => rfl) ?_
        refine T_call 76 232 [.ref 189, .int (i32 123)] [] rfl (fun _ => rfl) rfl (d_need w (mO m18 [(26, (m.1 26) + 1)] [(51, upI (m.2 51) (m.1 26) 0), (52, upI (m.2 52) (m.1 26) 0), (53, upI (m.2 53) (m.1 26) 0), (58, upI (m.2 58) (m.1 26) 1), (59, upI (m.2 59) (m.1 26) 0)]) c N D (by omega) (Ty_mO Tm18 rfl rfl ⟨g1116, trivial⟩ ⟨G1117, G1118, G1119, G1120, G1121, trivial⟩) 123 ⟨by decide, by decide⟩ (show 1 ≤ (123 : Int) by omega) (show LxP (m18.1 7) (m18.1 8) (m18.1 9) (m18.1 6) (m18.1 10) by rewrite [(show (m18.1 6) = (m.1 6) from ((fr1 Fm18 6 rfl).trans (fr1 Fm4 6 rfl)))]; first | exact hLx | (intro h9; exfalso; omega) | (intro h9; have h8 := hLx (by omega); omega))) (fun rr1122 k1123 => ?_)
        obtain ⟨m1124, Tm1124, Fm1124, h1125, h1126, h1127, h1128, rfl⟩ := k1123
        refine ⟨_, _, rfl, ?_⟩
        refine T_nb (st' := []) rfl ?_
        have g1129 : 0 ≤ m1124.1 7 ∧ m1124.1 7 ≤ 330 := Tm1124.1 7
        have g1130 : 0 ≤ m1124.1 8 ∧ m1124.1 8 ≤ 4000 := Tm1124.1 8
        have g1131 : 0 ≤ m1124.1 9 ∧ m1124.1 9 ≤ 4000 := Tm1124.1 9
        have g1132 : 0 ≤ m1124.1 10 ∧ m1124.1 10 ≤ 8 := Tm1124.1 10
        have g1133 : (-1) ≤ m1124.1 11 ∧ m1124.1 11 ≤ 4000 := Tm1124.1 11
        replace h1125 : LxP (m1124.1 7) (m1124.1 8) (m1124.1 9) (m18.1 6) (m1124.1 10) := h1125
        rewrite [(show (m18.1 6) = (m.1 6) from ((fr1 Fm18 6 rfl).trans (fr1 Fm4 6 rfl)))] at h1125
        replace h1126 : (m1124.1 10) = 0 → (m18.1 10) = 0 ∧ (m18.1 7) = (123 : Int) := h1126
        replace h1127 : (m18.1 8) ≤ (m1124.1 8) := h1127
        replace h1128 : (m1124.1 10) = 0 → (m18.1 8) + (m18.1 9) ≤ (m1124.1 8) := h1128
        have hf1134 : 1 ≤ (m1124.1 10) := by omega
        clear h1126
        clear h1128
        have hLx := h1125
        clear g27 g28 g29 g30 g31 g19a g19b h20 h24 hf1114 h1115 h1127
        refine T_ld 77 (.int (i32 0)) rfl (fun _ => rfl) ?_
        refine T_sto 78 [(2, .int (i32 0)), (1, .int (i32 (m.1 26))), (0, .ref 189)] rfl (fun _ => rfl) ?_
        refine T_ld 79 (.int (i32 0)) rfl (fun _ => rfl) ?_
        refine T_sto 80 [(3, .int (i32 0)), (2, .int (i32 0)), (1, .int (i32 (m.1 26))), (0, .ref 189)] rfl (fun _ => rfl) ?_
        refine T_gf 84 (.int (i32 (m1124.1 10))) rfl rfl rfl rfl rfl rfl ?_
        refine T_if 101 87 rfl rfl rfl (r32 (by omega) (by omega)) (fun (h1135 : (m1124.1 10) ≠ 0) => ?_) (fun (h1135 : ¬ ((m1124.1 10) ≠ 0)) => by exfalso; omega)
        refine T_gf 105 (.int (i32 (m1124.1 10))) rfl rfl rfl rfl rfl rfl ?_
        refine T_if 384 108 rfl rfl rfl (r32 (by omega) (by omega)) (fun (h1136 : (m1124.1 10) ≠ 0) => ?_) (fun (h1136 : ¬ ((m1124.1 10) ≠ 0)) => by exfalso; omega)
        refine T_gf 388 (.ref 228) rfl rfl rfl rfl rfl rfl ?_
        refine T_ld 389 (.int (i32 (m.1 26))) rfl (fun _ => rfl) ?_
        refine T_ld 390 (.int (i32 0)) rfl (fun _ => rfl) ?_
        refine T_if 401 393 rfl rfl rfl ⟨by decide, by decide⟩ (fun h1137 => absurd (show (0 : Int) ≠ 0 from h1137) (by decide)) (fun _ => ?_)
        refine T_ld 394 (.int (i32 0)) rfl (fun _ => rfl) ?_
        refine T_if 401 397 rfl rfl rfl ⟨by decide, by decide⟩ (fun h1138 => absurd (show (0 : Int) ≠ 0 from h1138) (by decide)) (fun _ => ?_)
        refine T_ld 398 (.int (i32 1)) rfl (fun _ => rfl) ?_
        refine T_goto 402 rfl (fun _ => rfl) ?_
        have G1139 : ∀ j, 0 ≤ (upI (upI (m.2 58) (m.1 26) 1) (m.1 26) 1) j ∧ (upI (upI (m.2 58) (m.1 26) 1) (m.1 26) 1) j ≤ 1 := upI_rg G1120 ⟨by omega, by omega⟩
        refine T_bast (a' := [(58, upI (upI (m.2 58) (m.1 26) 1) (m.1 26) 1)]) 403 58 (upI (m.2 58) (m.1 26) 1) rfl rfl rfl (by omega) (show (m.1 26) < (8 : Int) by omega) (by omega) (show (m1124.2 58) = (upI (m.2 58) (m.1 26) 1) from (fr2 Fm1124 58 rfl)) rfl ?_
        refine T_ld 404 (.ref 189) rfl (fun _ => rfl) ?_
        refine T_ld 405 (.int (i32 (m.1 26))) rfl (fun _ => rfl) ?_
        refine T_call 408 276 [.ref 189, .int (i32 (m.1 26))] [] rfl (fun _ => rfl) rfl (c_takeList w (mO m1124 [] [(58, upI (upI (m.2 58) (m.1 26) 1) (m.1 26) 1)]) c N D (by omega) (Ty_mO Tm1124 rfl rfl trivial ⟨G1139, trivial⟩) (m.1 26) (r32 (by omega) (by omega)) (show LxP (m1124.1 7) (m1124.1 8) (m1124.1 9) (m1124.1 6) (m1124.1 10) by rewrite [(show (m1124.1 6) = (m.1 6) from ((fr1 Fm1124 6 rfl).trans ((fr1 Fm18 6 rfl).trans (fr1 Fm4 6 rfl))))]; first | exact hLx | exact (fun _ => hLx (by omega)) | (intro h9; exfalso; omega)) (show ∀ k, (m1124.2 14) k + (m1124.2 15) k ≤ 4000 by rewrite [(show (m1124.2 14) = (m18.2 14) from (fr2 Fm1124 14 rfl)), (show (m1124.2 15) = (m18.2 15) from (fr2 Fm1124 15 rfl))]; assumption) (show 0 ≤ (m.1 26) ∧ (m.1 26) ≤ 7 by omega) (fun (h : (m1124.1 10) = 0) => absurd h (by omega))) (fun rr1140 k1141 => ?_)
        obtain ⟨m1142, Tm1142, Fm1142, h1143, h1144, c1145, rfl⟩ := k1141
        refine ⟨_, _, rfl, ?_⟩
        refine T_nb (st' := []) rfl ?_
        have g1146 : 0 ≤ m1142.1 7 ∧ m1142.1 7 ≤ 330 := Tm1142.1 7
        have g1147 : 0 ≤ m1142.1 8 ∧ m1142.1 8 ≤ 4000 := Tm1142.1 8
        have g1148 : 0 ≤ m1142.1 9 ∧ m1142.1 9 ≤ 4000 := Tm1142.1 9
        have g1149 : 0 ≤ m1142.1 10 ∧ m1142.1 10 ≤ 8 := Tm1142.1 10
        have g1150 : (-1) ≤ m1142.1 11 ∧ m1142.1 11 ≤ 4000 := Tm1142.1 11
        replace h1143 : (m1142.1 10) = 0 → (m1124.1 10) = 0 := h1143
        replace h1144 : LxP (m1142.1 7) (m1142.1 8) (m1142.1 9) (m1124.1 6) (m1142.1 10) := h1144
        rewrite [(show (m1124.1 6) = (m.1 6) from ((fr1 Fm1124 6 rfl).trans ((fr1 Fm18 6 rfl).trans (fr1 Fm4 6 rfl))))] at h1144
        have hf1151 : 1 ≤ (m1142.1 10) := by omega
        clear c1145
        clear h1143
        have hLx := h1144
        clear g1129 g1130 g1131 g1132 g1133 hf1134 h1125 h1135 h1136
        refine T_ld 409 (.ref 189) rfl (fun _ => rfl) ?_
        refine T_ld 410 (.int (i32 (m.1 26))) rfl (fun _ => rfl) ?_
        refine T_call 413 277 [.ref 189, .int (i32 (m.1 26))] [] rfl (fun _ => rfl) rfl (c_takeElse w (mO m1142 [] []) c N D (by omega) Tm1142 (m.1 26) (r32 (by omega) (by omega)) (show LxP (m1142.1 7) (m1142.1 8) (m1142.1 9) (m1142.1 6) (m1142.1 10) by rewrite [(show (m1142.1 6) = (m.1 6) from ((fr1 Fm1142 6 rfl).trans ((fr1 Fm1124 6 rfl).trans ((fr1 Fm18 6 rfl).trans (fr1 Fm4 6 rfl)))))]; first | exact hLx | exact (fun _ => hLx (by omega)) | (intro h9; exfalso; omega)) (show ∀ k, (m1142.2 14) k + (m1142.2 15) k ≤ 4000 by rewrite [(show (m1142.2 14) = (m18.2 14) from ((fr2 Fm1142 14 rfl).trans (fr2 Fm1124 14 rfl))), (show (m1142.2 15) = (m18.2 15) from ((fr2 Fm1142 15 rfl).trans (fr2 Fm1124 15 rfl)))]; assumption) (show 0 ≤ (m.1 26) ∧ (m.1 26) ≤ 7 by omega) (fun (h : (m1142.1 10) = 0) => absurd h (by omega))) (fun rr1152 k1153 => ?_)
        obtain ⟨m1154, Tm1154, Fm1154, h1155, h1156, c1157, rfl⟩ := k1153
        refine ⟨_, _, rfl, ?_⟩
        refine T_nb (st' := []) rfl ?_
        have g1158 : 0 ≤ m1154.1 7 ∧ m1154.1 7 ≤ 330 := Tm1154.1 7
        have g1159 : 0 ≤ m1154.1 8 ∧ m1154.1 8 ≤ 4000 := Tm1154.1 8
        have g1160 : 0 ≤ m1154.1 9 ∧ m1154.1 9 ≤ 4000 := Tm1154.1 9
        have g1161 : 0 ≤ m1154.1 10 ∧ m1154.1 10 ≤ 8 := Tm1154.1 10
        have g1162 : (-1) ≤ m1154.1 11 ∧ m1154.1 11 ≤ 4000 := Tm1154.1 11
        replace h1155 : (m1154.1 10) = 0 → (m1142.1 10) = 0 := h1155
        replace h1156 : LxP (m1154.1 7) (m1154.1 8) (m1154.1 9) (m1142.1 6) (m1154.1 10) := h1156
        rewrite [(show (m1142.1 6) = (m.1 6) from ((fr1 Fm1142 6 rfl).trans ((fr1 Fm1124 6 rfl).trans ((fr1 Fm18 6 rfl).trans (fr1 Fm4 6 rfl)))))] at h1156
        have hf1163 : 1 ≤ (m1154.1 10) := by omega
        clear c1157
        clear h1155
        have hLx := h1156
        clear g1146 g1147 g1148 g1149 g1150 hf1151 h1144
        refine T_ld 414 (.ref 189) rfl (fun _ => rfl) ?_
        refine T_ld 415 (.int (i32 (m.1 26))) rfl (fun _ => rfl) ?_
        refine T_call 418 278 [.ref 189, .int (i32 (m.1 26))] [] rfl (fun _ => rfl) rfl (c_takeRoom w (mO m1154 [] []) c N D (by omega) Tm1154 (m.1 26) (r32 (by omega) (by omega)) (show LxP (m1154.1 7) (m1154.1 8) (m1154.1 9) (m1154.1 6) (m1154.1 10) by rewrite [(show (m1154.1 6) = (m.1 6) from ((fr1 Fm1154 6 rfl).trans ((fr1 Fm1142 6 rfl).trans ((fr1 Fm1124 6 rfl).trans ((fr1 Fm18 6 rfl).trans (fr1 Fm4 6 rfl))))))]; first | exact hLx | exact (fun _ => hLx (by omega)) | (intro h9; exfalso; omega)) (show 0 ≤ (m.1 26) ∧ (m.1 26) ≤ 7 by omega) (fun (h : (m1154.1 10) = 0) => absurd h (by omega))) (fun rr1164 k1165 => ?_)
        obtain ⟨m1166, Tm1166, Fm1166, h1167, h1168, c1169, rfl⟩ := k1165
        refine ⟨_, _, rfl, ?_⟩
        refine T_nb (st' := []) rfl ?_
        have g1170 : 0 ≤ m1166.1 7 ∧ m1166.1 7 ≤ 330 := Tm1166.1 7
        have g1171 : 0 ≤ m1166.1 8 ∧ m1166.1 8 ≤ 4000 := Tm1166.1 8
        have g1172 : 0 ≤ m1166.1 9 ∧ m1166.1 9 ≤ 4000 := Tm1166.1 9
        have g1173 : 0 ≤ m1166.1 10 ∧ m1166.1 10 ≤ 8 := Tm1166.1 10
        have g1174 : (-1) ≤ m1166.1 11 ∧ m1166.1 11 ≤ 4000 := Tm1166.1 11
        replace h1167 : (m1166.1 10) = 0 → (m1154.1 10) = 0 := h1167
        replace h1168 : LxP (m1166.1 7) (m1166.1 8) (m1166.1 9) (m1154.1 6) (m1166.1 10) := h1168
        rewrite [(show (m1154.1 6) = (m.1 6) from ((fr1 Fm1154 6 rfl).trans ((fr1 Fm1142 6 rfl).trans ((fr1 Fm1124 6 rfl).trans ((fr1 Fm18 6 rfl).trans (fr1 Fm4 6 rfl))))))] at h1168
        have hf1175 : 1 ≤ (m1166.1 10) := by omega
        clear c1169
        clear h1167
        have hLx := h1168
        clear g1158 g1159 g1160 g1161 g1162 hf1163 h1156
        refine T_ld 419 (.ref 189) rfl (fun _ => rfl) ?_
        refine T_ld 421 (.int (i32 125)) rfl (fun _ => rfl) ?_
        refine T_call 424 232 [.ref 189, .int (i32 125)] [] rfl (fun _ => rfl) rfl (d_need w (mO m1166 [] []) c N D (by omega) Tm1166 125 ⟨by decide, by decide⟩ (show 1 ≤ (125 : Int) by omega) (show LxP (m1166.1 7) (m1166.1 8) (m1166.1 9) (m1166.1 6) (m1166.1 10) by rewrite [(show (m1166.1 6) = (m.1 6) from ((fr1 Fm1166 6 rfl).trans ((fr1 Fm1154 6 rfl).trans ((fr1 Fm1142 6 rfl).trans ((fr1 Fm1124 6 rfl).trans ((fr1 Fm18 6 rfl).trans (fr1 Fm4 6 rfl)))))))]; first | exact hLx | (intro h9; exfalso; omega) | (intro h9; have h8 := hLx (by omega); omega))) (fun rr1176 k1177 => ?_)
        obtain ⟨m1178, Tm1178, Fm1178, h1179, h1180, h1181, h1182, rfl⟩ := k1177
        refine ⟨_, _, rfl, ?_⟩
        refine T_nb (st' := []) rfl ?_
        have g1183 : 0 ≤ m1178.1 7 ∧ m1178.1 7 ≤ 330 := Tm1178.1 7
        have g1184 : 0 ≤ m1178.1 8 ∧ m1178.1 8 ≤ 4000 := Tm1178.1 8
        have g1185 : 0 ≤ m1178.1 9 ∧ m1178.1 9 ≤ 4000 := Tm1178.1 9
        have g1186 : 0 ≤ m1178.1 10 ∧ m1178.1 10 ≤ 8 := Tm1178.1 10
        have g1187 : (-1) ≤ m1178.1 11 ∧ m1178.1 11 ≤ 4000 := Tm1178.1 11
        replace h1179 : LxP (m1178.1 7) (m1178.1 8) (m1178.1 9) (m1166.1 6) (m1178.1 10) := h1179
        rewrite [(show (m1166.1 6) = (m.1 6) from ((fr1 Fm1166 6 rfl).trans ((fr1 Fm1154 6 rfl).trans ((fr1 Fm1142 6 rfl).trans ((fr1 Fm1124 6 rfl).trans ((fr1 Fm18 6 rfl).trans (fr1 Fm4 6 rfl)))))))] at h1179
        replace h1180 : (m1178.1 10) = 0 → (m1166.1 10) = 0 ∧ (m1166.1 7) = (125 : Int) := h1180
        replace h1181 : (m1166.1 8) ≤ (m1178.1 8) := h1181
        replace h1182 : (m1178.1 10) = 0 → (m1166.1 8) + (m1166.1 9) ≤ (m1178.1 8) := h1182
        have hf1188 : 1 ≤ (m1178.1 10) := by omega
        clear h1180
        clear h1182
        have hLx := h1179
        clear g1170 g1171 g1172 g1173 g1174 hf1175 h1168 h1181
        refine T_ret rfl (fun _ => rfl) ?_
        exact ⟨(mO m1178 [] []), Tm1178, (fr_m (fr_s Fm1178 (fr_m (fr_s Fm1166 (fr_m (fr_s Fm1154 (fr_m (fr_s Fm1142 (fr_m (fr_s Fm1124 (fr_m (fr_s Fm18 (fr_m (fr_s Fm4 (fr_m fr_0 rfl rfl) rfl rfl) rfl rfl) rfl rfl) rfl rfl) rfl rfl) rfl rfl) rfl rfl) rfl rfl) rfl rfl) rfl rfl) rfl rfl) rfl rfl) rfl rfl) rfl rfl), (show (m1178.1 10) = 0 → (m.1 10) = 0 by omega), (show LxP (m1178.1 7) (m1178.1 8) (m1178.1 9) (m.1 6) (m1178.1 10) by first | (first | exact hLx | exact (fun _ => hLx (by omega)) | (intro h9; exfalso; omega)) | (exfalso; omega)), (show ∀ k, (m1178.2 14) k + (m1178.2 15) k ≤ 4000 by rewrite [(show (m1178.2 14) = (m18.2 14) from ((fr2 Fm1178 14 rfl).trans ((fr2 Fm1166 14 rfl).trans ((fr2 Fm1154 14 rfl).trans ((fr2 Fm1142 14 rfl).trans (fr2 Fm1124 14 rfl)))))), (show (m1178.2 15) = (m18.2 15) from ((fr2 Fm1178 15 rfl).trans ((fr2 Fm1166 15 rfl).trans ((fr2 Fm1154 15 rfl).trans ((fr2 Fm1142 15 rfl).trans (fr2 Fm1124 15 rfl))))))]; first | (exact hNM) | (exfalso; omega)), (fun (h : (m1178.1 10) = 0) => absurd h (by omega)), rfl⟩
      · skip
        refine T_ret rfl (fun _ => rfl) ?_
        exact ⟨(mO m18 [] []), Tm18, (fr_m (fr_s Fm18 (fr_m (fr_s Fm4 (fr_m fr_0 rfl rfl) rfl rfl) rfl rfl) rfl rfl) rfl rfl), (show (m18.1 10) = 0 → (m.1 10) = 0 by omega), (show LxP (m18.1 7) (m18.1 8) (m18.1 9) (m.1 6) (m18.1 10) by first | (first | exact hLx | exact (fun _ => hLx (by omega)) | (intro h9; exfalso; omega)) | (exfalso; omega)), (show ∀ k, (m18.2 14) k + (m18.2 15) k ≤ 4000 by first | (exact hNM) | (exfalso; omega)), (fun (h : (m18.1 10) = 0) => absurd h (by omega)), rfl⟩
  · skip
    replace h5 : LxP (m4.1 7) (m4.1 8) (m4.1 9) (m.1 6) (m4.1 10) := h5
    have hLx := h5
    clear h6
    replace h7 : (m.1 8) ≤ (m4.1 8) := h7
    clear h8
    have hf1189 : 1 ≤ (m4.1 10) := by omega
    refine T_ld 5 (.ref 189) rfl (fun _ => rfl) ?_
    refine T_ld 7 (.int (i32 7)) rfl (fun _ => rfl) ?_
    refine T_gf 11 (.int (i32 (m.1 26))) rfl rfl rfl rfl (mfv_c (F := fun x => .int (i32 x)) rfl (show (m4.1 26) = (m.1 26) from (fr1 Fm4 26 rfl))) rfl ?_
    refine T_ld 13 (.int (i32 8)) rfl (fun _ => rfl) ?_
    refine T_call 16 225 [.ref 189, .int (i32 7), .int (i32 (m.1 26)), .int (i32 8)] [] rfl (fun _ => rfl) rfl (d_newName w (mO m4 [] []) c N D (by omega) Tm4 7 (m.1 26) 8 ⟨by decide, by decide⟩ (r32 (by omega) (by omega)) ⟨by decide, by decide⟩ (show LxP (m4.1 7) (m4.1 8) (m4.1 9) (m4.1 6) (m4.1 10) by rewrite [(show (m4.1 6) = (m.1 6) from (fr1 Fm4 6 rfl))]; first | exact hLx | (intro h9; exfalso; omega) | (intro h9; have h8 := hLx (by omega); omega)) (show ∀ k, (m4.2 14) k + (m4.2 15) k ≤ 4000 by rewrite [(show (m4.2 14) = (m.2 14) from (fr2 Fm4 14 rfl)), (show (m4.2 15) = (m.2 15) from (fr2 Fm4 15 rfl))]; first | exact p1 | exact hNM) (show (m4.1 10) = 0 → (m4.1 13) ≤ 119 by rewrite [(show (m4.1 13) = (m.1 13) from (fr1 Fm4 13 rfl))]; omega) (show 1 ≤ (7 : Int) ∧ (7 : Int) ≤ 7 by omega) (show 0 ≤ (m.1 26) ∧ ((m.1 26) ≠ (8 : Int) → (m.1 26) ≤ 15) by omega)) (fun rr1190 k1191 => ?_)
    obtain ⟨m1192, nn, Tm1192, Fm1192, g1193, h1194, h1195, h1196, h1197, h1198, h1199, h1200, rfl⟩ := k1191
    refine ⟨_, _, rfl, ?_⟩
    refine T_nb (st' := [.int (i32 nn)]) rfl ?_
    obtain ⟨g1193a, g1193b⟩ := g1193
    have g1201 : 0 ≤ m1192.1 7 ∧ m1192.1 7 ≤ 330 := Tm1192.1 7
    have g1202 : 0 ≤ m1192.1 8 ∧ m1192.1 8 ≤ 4000 := Tm1192.1 8
    have g1203 : 0 ≤ m1192.1 9 ∧ m1192.1 9 ≤ 4000 := Tm1192.1 9
    have g1204 : 0 ≤ m1192.1 10 ∧ m1192.1 10 ≤ 8 := Tm1192.1 10
    have g1205 : (-1) ≤ m1192.1 11 ∧ m1192.1 11 ≤ 4000 := Tm1192.1 11
    have g1206 : 0 ≤ m1192.1 13 ∧ m1192.1 13 ≤ 120 := Tm1192.1 13
    replace h1194 : LxP (m1192.1 7) (m1192.1 8) (m1192.1 9) (m4.1 6) (m1192.1 10) := h1194
    rewrite [(show (m4.1 6) = (m.1 6) from (fr1 Fm4 6 rfl))] at h1194
    replace h1195 : (m4.1 8) ≤ (m1192.1 8) := h1195
    replace h1196 : (m1192.1 10) = 0 → (m4.1 10) = 0 ∧ (m4.1 8) + (m4.1 9) ≤ (m1192.1 8) := h1196
    replace h1197 : (m1192.1 10) = 0 → nn = 1 ∧ (m4.1 7) = 1 := h1197
    replace h1198 : nn = 1 → (m.1 26) ≠ (8 : Int) := h1198
    replace h1199 : ∀ k, (m1192.2 14) k + (m1192.2 15) k ≤ 4000 := h1199
    replace h1200 : (nn = 1 ∧ (m4.1 10) = 0 ∧ (m1192.1 13) = (m4.1 13) + 1 ∧ (m1192.2 14) = upI (m4.2 14) (m4.1 13) (m4.1 8) ∧ (m1192.2 15) = upI (m4.2 15) (m4.1 13) (m4.1 9) ∧ (m1192.2 16) = upI (m4.2 16) (m4.1 13) (7 : Int) ∧ (m1192.2 17) = upI (m4.2 17) (m4.1 13) (m.1 26)) ∨ (nn = 0 ∧ 0 < (m1192.1 10) ∧ (m1192.1 13) = (m4.1 13) ∧ (m1192.2 14) = (m4.2 14) ∧ (m1192.2 15) = (m4.2 15) ∧ (m1192.2 16) = (m4.2 16) ∧ (m1192.2 17) = (m4.2 17)) := h1200
    rewrite [(show (m4.1 13) = (m.1 13) from (fr1 Fm4 13 rfl)), (show (m4.2 14) = (m.2 14) from (fr2 Fm4 14 rfl)), (show (m4.2 15) = (m.2 15) from (fr2 Fm4 15 rfl)), (show (m4.2 16) = (m.2 16) from (fr2 Fm4 16 rfl)), (show (m4.2 17) = (m.2 17) from (fr2 Fm4 17 rfl))] at h1200
    have hf1207 : 1 ≤ (m1192.1 10) := by omega
    clear h1196
    clear h1197
    have hLx := h1194
    have hNM := h1199
    have hN := h1200
    clear g9 g10 g11 g12 g13 h5 h7 hf1189 h1195 h1200
    refine T_if 20 19 rfl rfl rfl (r32 (by omega) (by omega)) (fun (h1208 : nn ≠ 0) => ?_) (fun (h1208 : ¬ (nn ≠ 0)) => ?_)
    · skip
      refine T_gf 24 (.int (i32 (m.1 26))) rfl rfl rfl rfl (mfv_c (F := fun x => .int (i32 x)) rfl (show (m1192.1 26) = (m.1 26) from ((fr1 Fm1192 26 rfl).trans (fr1 Fm4 26 rfl)))) rfl ?_
      refine T_sto 25 [(1, .int (i32 (m.1 26))), (0, .ref 189)] rfl (fun _ => rfl) ?_
      refine T_ld 26 (.ref 189) rfl (fun _ => rfl) ?_
      refine T_ld 27 (.ref 189) rfl (fun _ => rfl) ?_
      refine T_gf1 30 (.int (i32 (m.1 26))) rfl rfl (mfv_c (F := fun x => .int (i32 x)) rfl (show (m1192.1 26) = (m.1 26) from ((fr1 Fm1192 26 rfl).trans (fr1 Fm4 26 rfl)))) rfl ?_
      refine T_ld 31 (.int (i32 1)) rfl (fun _ => rfl) ?_
      refine T_iadd 32 rfl rfl ?_
      refine T_pf (l' := [(26, (m.1 26) + 1)]) 35 ((m.1 26) + 1) rfl rfl rfl rfl rfl rfl ?_
      have g1209 : 0 ≤ (m.1 26) + 1 ∧ (m.1 26) + 1 ≤ 8 := ⟨by omega, by omega⟩
      refine T_gf 39 (.ref 221) rfl rfl rfl rfl rfl rfl ?_
      refine T_ld 40 (.int (i32 (m.1 26))) rfl (fun _ => rfl) ?_
      refine T_ld 41 (.int (i32 0)) rfl (fun _ => rfl) ?_
      have G1210 : ∀ j, 0 ≤ (upI (m.2 51) (m.1 26) 0) j ∧ (upI (m.2 51) (m.1 26) 0) j ≤ 4 := upI_rg (hT.2.1 51) ⟨by omega, by omega⟩
      refine T_iast (a' := [(51, upI (m.2 51) (m.1 26) 0)]) 42 51 (m.2 51) rfl rfl rfl (by omega) (show (m.1 26) < (8 : Int) by omega) (show (m1192.2 51) = (m.2 51) from ((fr2 Fm1192 51 rfl).trans (fr2 Fm4 51 rfl))) rfl ?_
      refine T_gf 46 (.ref 222) rfl rfl rfl rfl rfl rfl ?_
      refine T_ld 47 (.int (i32 (m.1 26))) rfl (fun _ => rfl) ?_
      refine T_ld 48 (.int (i32 0)) rfl (fun _ => rfl) ?_
      have G1211 : ∀ j, 0 ≤ (upI (m.2 52) (m.1 26) 0) j ∧ (upI (m.2 52) (m.1 26) 0) j ≤ 4096 := upI_rg (hT.2.1 52) ⟨by omega, by omega⟩
      refine T_iast (a' := [(51, upI (m.2 51) (m.1 26) 0), (52, upI (m.2 52) (m.1 26) 0)]) 49 52 (m.2 52) rfl rfl rfl (by omega) (show (m.1 26) < (8 : Int) by omega) (show (m1192.2 52) = (m.2 52) from ((fr2 Fm1192 52 rfl).trans (fr2 Fm4 52 rfl))) rfl ?_
      refine T_gf 53 (.ref 223) rfl rfl rfl rfl rfl rfl ?_
      refine T_ld 54 (.int (i32 (m.1 26))) rfl (fun _ => rfl) ?_
      refine T_ld 55 (.int (i32 0)) rfl (fun _ => rfl) ?_
      have G1212 : ∀ j, 0 ≤ (upI (m.2 53) (m.1 26) 0) j ∧ (upI (m.2 53) (m.1 26) 0) j ≤ 8 := upI_rg (hT.2.1 53) ⟨by omega, by omega⟩
      refine T_iast (a' := [(51, upI (m.2 51) (m.1 26) 0), (52, upI (m.2 52) (m.1 26) 0), (53, upI (m.2 53) (m.1 26) 0)]) 56 53 (m.2 53) rfl rfl rfl (by omega) (show (m.1 26) < (8 : Int) by omega) (show (m1192.2 53) = (m.2 53) from ((fr2 Fm1192 53 rfl).trans (fr2 Fm4 53 rfl))) rfl ?_
      refine T_gf 60 (.ref 228) rfl rfl rfl rfl rfl rfl ?_
      refine T_ld 61 (.int (i32 (m.1 26))) rfl (fun _ => rfl) ?_
      refine T_ld 62 (.int (i32 1)) rfl (fun _ => rfl) ?_
      have G1213 : ∀ j, 0 ≤ (upI (m.2 58) (m.1 26) 1) j ∧ (upI (m.2 58) (m.1 26) 1) j ≤ 1 := upI_rg (hT.2.1 58) ⟨by omega, by omega⟩
      refine T_bast (a' := [(51, upI (m.2 51) (m.1 26) 0), (52, upI (m.2 52) (m.1 26) 0), (53, upI (m.2 53) (m.1 26) 0), (58, upI (m.2 58) (m.1 26) 1)]) 63 58 (m.2 58) rfl rfl rfl (by omega) (show (m.1 26) < (8 : Int) by omega) (by omega) (show (m1192.2 58) = (m.2 58) from ((fr2 Fm1192 58 rfl).trans (fr2 Fm4 58 rfl))) rfl ?_
      refine T_gf 67 (.ref 229) rfl rfl rfl rfl rfl rfl ?_
      refine T_ld 68 (.int (i32 (m.1 26))) rfl (fun _ => rfl) ?_
      refine T_ld 69 (.int (i32 0)) rfl (fun _ => rfl) ?_
      have G1214 : ∀ j, 0 ≤ (upI (m.2 59) (m.1 26) 0) j ∧ (upI (m.2 59) (m.1 26) 0) j ≤ 1 := upI_rg (hT.2.1 59) ⟨by omega, by omega⟩
      refine T_bast (a' := [(51, upI (m.2 51) (m.1 26) 0), (52, upI (m.2 52) (m.1 26) 0), (53, upI (m.2 53) (m.1 26) 0), (58, upI (m.2 58) (m.1 26) 1), (59, upI (m.2 59) (m.1 26) 0)]) 70 59 (m.2 59) rfl rfl rfl (by omega) (show (m.1 26) < (8 : Int) by omega) (by omega) (show (m1192.2 59) = (m.2 59) from ((fr2 Fm1192 59 rfl).trans (fr2 Fm4 59 rfl))) rfl ?_
      refine T_ld 71 (.ref 189) rfl (fun _ => rfl) ?_
      refine T_ld 73 (.int (i32 123)) rfl (fun _ => rfl) ?_
      refine T_call 76 232 [.ref 189, .int (i32 123)] [] rfl (fun _ => rfl) rfl (d_need w (mO m1192 [(26, (m.1 26) + 1)] [(51, upI (m.2 51) (m.1 26) 0), (52, upI (m.2 52) (m.1 26) 0), (53, upI (m.2 53) (m.1 26) 0), (58, upI (m.2 58) (m.1 26) 1), (59, upI (m.2 59) (m.1 26) 0)]) c N D (by omega) (Ty_mO Tm1192 rfl rfl ⟨g1209, trivial⟩ ⟨G1210, G1211, G1212, G1213, G1214, trivial⟩) 123 ⟨by decide, by decide⟩ (show 1 ≤ (123 : Int) by omega) (show LxP (m1192.1 7) (m1192.1 8) (m1192.1 9) (m1192.1 6) (m1192.1 10) by rewrite [(show (m1192.1 6) = (m.1 6) from ((fr1 Fm1192 6 rfl).trans (fr1 Fm4 6 rfl)))]; first | exact hLx | (intro h9; exfalso; omega) | (intro h9; have h8 := hLx (by omega); omega))) (fun rr1215 k1216 => ?_)
      obtain ⟨m1217, Tm1217, Fm1217, h1218, h1219, h1220, h1221, rfl⟩ := k1216
      refine ⟨_, _, rfl, ?_⟩
      refine T_nb (st' := []) rfl ?_
      have g1222 : 0 ≤ m1217.1 7 ∧ m1217.1 7 ≤ 330 := Tm1217.1 7
      have g1223 : 0 ≤ m1217.1 8 ∧ m1217.1 8 ≤ 4000 := Tm1217.1 8
      have g1224 : 0 ≤ m1217.1 9 ∧ m1217.1 9 ≤ 4000 := Tm1217.1 9
      have g1225 : 0 ≤ m1217.1 10 ∧ m1217.1 10 ≤ 8 := Tm1217.1 10
      have g1226 : (-1) ≤ m1217.1 11 ∧ m1217.1 11 ≤ 4000 := Tm1217.1 11
      replace h1218 : LxP (m1217.1 7) (m1217.1 8) (m1217.1 9) (m1192.1 6) (m1217.1 10) := h1218
      rewrite [(show (m1192.1 6) = (m.1 6) from ((fr1 Fm1192 6 rfl).trans (fr1 Fm4 6 rfl)))] at h1218
      replace h1219 : (m1217.1 10) = 0 → (m1192.1 10) = 0 ∧ (m1192.1 7) = (123 : Int) := h1219
      replace h1220 : (m1192.1 8) ≤ (m1217.1 8) := h1220
      replace h1221 : (m1217.1 10) = 0 → (m1192.1 8) + (m1192.1 9) ≤ (m1217.1 8) := h1221
      have hf1227 : 1 ≤ (m1217.1 10) := by omega
      clear h1219
      clear h1221
      have hLx := h1218
      clear g1201 g1202 g1203 g1204 g1205 g1193a g1193b hf1207 h1194 h1198 h1208 h1220
      refine T_ld 77 (.int (i32 0)) rfl (fun _ => rfl) ?_
      refine T_sto 78 [(2, .int (i32 0)), (1, .int (i32 (m.1 26))), (0, .ref 189)] rfl (fun _ => rfl) ?_
      refine T_ld 79 (.int (i32 0)) rfl (fun _ => rfl) ?_
      refine T_sto 80 [(3, .int (i32 0)), (2, .int (i32 0)), (1, .int (i32 (m.1 26))), (0, .ref 189)] rfl (fun _ => rfl) ?_
      refine T_gf 84 (.int (i32 (m1217.1 10))) rfl rfl rfl rfl rfl rfl ?_
      refine T_if 101 87 rfl rfl rfl (r32 (by omega) (by omega)) (fun (h1228 : (m1217.1 10) ≠ 0) => ?_) (fun (h1228 : ¬ ((m1217.1 10) ≠ 0)) => by exfalso; omega)
      refine T_gf 105 (.int (i32 (m1217.1 10))) rfl rfl rfl rfl rfl rfl ?_
      refine T_if 384 108 rfl rfl rfl (r32 (by omega) (by omega)) (fun (h1229 : (m1217.1 10) ≠ 0) => ?_) (fun (h1229 : ¬ ((m1217.1 10) ≠ 0)) => by exfalso; omega)
      refine T_gf 388 (.ref 228) rfl rfl rfl rfl rfl rfl ?_
      refine T_ld 389 (.int (i32 (m.1 26))) rfl (fun _ => rfl) ?_
      refine T_ld 390 (.int (i32 0)) rfl (fun _ => rfl) ?_
      refine T_if 401 393 rfl rfl rfl ⟨by decide, by decide⟩ (fun h1230 => absurd (show (0 : Int) ≠ 0 from h1230) (by decide)) (fun _ => ?_)
      refine T_ld 394 (.int (i32 0)) rfl (fun _ => rfl) ?_
      refine T_if 401 397 rfl rfl rfl ⟨by decide, by decide⟩ (fun h1231 => absurd (show (0 : Int) ≠ 0 from h1231) (by decide)) (fun _ => ?_)
      refine T_ld 398 (.int (i32 1)) rfl (fun _ => rfl) ?_
      refine T_goto 402 rfl (fun _ => rfl) ?_
      have G1232 : ∀ j, 0 ≤ (upI (upI (m.2 58) (m.1 26) 1) (m.1 26) 1) j ∧ (upI (upI (m.2 58) (m.1 26) 1) (m.1 26) 1) j ≤ 1 := upI_rg G1213 ⟨by omega, by omega⟩
      refine T_bast (a' := [(58, upI (upI (m.2 58) (m.1 26) 1) (m.1 26) 1)]) 403 58 (upI (m.2 58) (m.1 26) 1) rfl rfl rfl (by omega) (show (m.1 26) < (8 : Int) by omega) (by omega) (show (m1217.2 58) = (upI (m.2 58) (m.1 26) 1) from (fr2 Fm1217 58 rfl)) rfl ?_
      refine T_ld 404 (.ref 189) rfl (fun _ => rfl) ?_
      refine T_ld 405 (.int (i32 (m.1 26))) rfl (fun _ => rfl) ?_
      refine T_call 408 276 [.ref 189, .int (i32 (m.1 26))] [] rfl (fun _ => rfl) rfl (c_takeList w (mO m1217 [] [(58, upI (upI (m.2 58) (m.1 26) 1) (m.1 26) 1)]) c N D (by omega) (Ty_mO Tm1217 rfl rfl trivial ⟨G1232, trivial⟩) (m.1 26) (r32 (by omega) (by omega)) (show LxP (m1217.1 7) (m1217.1 8) (m1217.1 9) (m1217.1 6) (m1217.1 10) by rewrite [(show (m1217.1 6) = (m.1 6) from ((fr1 Fm1217 6 rfl).trans ((fr1 Fm1192 6 rfl).trans (fr1 Fm4 6 rfl))))]; first | exact hLx | exact (fun _ => hLx (by omega)) | (intro h9; exfalso; omega)) (show ∀ k, (m1217.2 14) k + (m1217.2 15) k ≤ 4000 by rewrite [(show (m1217.2 14) = (m1192.2 14) from (fr2 Fm1217 14 rfl)), (show (m1217.2 15) = (m1192.2 15) from (fr2 Fm1217 15 rfl))]; assumption) (show 0 ≤ (m.1 26) ∧ (m.1 26) ≤ 7 by omega) (fun (h : (m1217.1 10) = 0) => absurd h (by omega))) (fun rr1233 k1234 => ?_)
      obtain ⟨m1235, Tm1235, Fm1235, h1236, h1237, c1238, rfl⟩ := k1234
      refine ⟨_, _, rfl, ?_⟩
      refine T_nb (st' := []) rfl ?_
      have g1239 : 0 ≤ m1235.1 7 ∧ m1235.1 7 ≤ 330 := Tm1235.1 7
      have g1240 : 0 ≤ m1235.1 8 ∧ m1235.1 8 ≤ 4000 := Tm1235.1 8
      have g1241 : 0 ≤ m1235.1 9 ∧ m1235.1 9 ≤ 4000 := Tm1235.1 9
      have g1242 : 0 ≤ m1235.1 10 ∧ m1235.1 10 ≤ 8 := Tm1235.1 10
      have g1243 : (-1) ≤ m1235.1 11 ∧ m1235.1 11 ≤ 4000 := Tm1235.1 11
      replace h1236 : (m1235.1 10) = 0 → (m1217.1 10) = 0 := h1236
      replace h1237 : LxP (m1235.1 7) (m1235.1 8) (m1235.1 9) (m1217.1 6) (m1235.1 10) := h1237
      rewrite [(show (m1217.1 6) = (m.1 6) from ((fr1 Fm1217 6 rfl).trans ((fr1 Fm1192 6 rfl).trans (fr1 Fm4 6 rfl))))] at h1237
      have hf1244 : 1 ≤ (m1235.1 10) := by omega
      clear c1238
      clear h1236
      have hLx := h1237
      clear g1222 g1223 g1224 g1225 g1226 hf1227 h1218 h1228 h1229
      refine T_ld 409 (.ref 189) rfl (fun _ => rfl) ?_
      refine T_ld 410 (.int (i32 (m.1 26))) rfl (fun _ => rfl) ?_
      refine T_call 413 277 [.ref 189, .int (i32 (m.1 26))] [] rfl (fun _ => rfl) rfl (c_takeElse w (mO m1235 [] []) c N D (by omega) Tm1235 (m.1 26) (r32 (by omega) (by omega)) (show LxP (m1235.1 7) (m1235.1 8) (m1235.1 9) (m1235.1 6) (m1235.1 10) by rewrite [(show (m1235.1 6) = (m.1 6) from ((fr1 Fm1235 6 rfl).trans ((fr1 Fm1217 6 rfl).trans ((fr1 Fm1192 6 rfl).trans (fr1 Fm4 6 rfl)))))]; first | exact hLx | exact (fun _ => hLx (by omega)) | (intro h9; exfalso; omega)) (show ∀ k, (m1235.2 14) k + (m1235.2 15) k ≤ 4000 by rewrite [(show (m1235.2 14) = (m1192.2 14) from ((fr2 Fm1235 14 rfl).trans (fr2 Fm1217 14 rfl))), (show (m1235.2 15) = (m1192.2 15) from ((fr2 Fm1235 15 rfl).trans (fr2 Fm1217 15 rfl)))]; assumption) (show 0 ≤ (m.1 26) ∧ (m.1 26) ≤ 7 by omega) (fun (h : (m1235.1 10) = 0) => absurd h (by omega))) (fun rr1245 k1246 => ?_)
      obtain ⟨m1247, Tm1247, Fm1247, h1248, h1249, c1250, rfl⟩ := k1246
      refine ⟨_, _, rfl, ?_⟩
      refine T_nb (st' := []) rfl ?_
      have g1251 : 0 ≤ m1247.1 7 ∧ m1247.1 7 ≤ 330 := Tm1247.1 7
      have g1252 : 0 ≤ m1247.1 8 ∧ m1247.1 8 ≤ 4000 := Tm1247.1 8
      have g1253 : 0 ≤ m1247.1 9 ∧ m1247.1 9 ≤ 4000 := Tm1247.1 9
      have g1254 : 0 ≤ m1247.1 10 ∧ m1247.1 10 ≤ 8 := Tm1247.1 10
      have g1255 : (-1) ≤ m1247.1 11 ∧ m1247.1 11 ≤ 4000 := Tm1247.1 11
      replace h1248 : (m1247.1 10) = 0 → (m1235.1 10) = 0 := h1248
      replace h1249 : LxP (m1247.1 7) (m1247.1 8) (m1247.1 9) (m1235.1 6) (m1247.1 10) := h1249
      rewrite [(show (m1235.1 6) = (m.1 6) from ((fr1 Fm1235 6 rfl).trans ((fr1 Fm1217 6 rfl).trans ((fr1 Fm1192 6 rfl).trans (fr1 Fm4 6 rfl)))))] at h1249
      have hf1256 : 1 ≤ (m1247.1 10) := by omega
      clear c1250
      clear h1248
      have hLx := h1249
      clear g1239 g1240 g1241 g1242 g1243 hf1244 h1237
      refine T_ld 414 (.ref 189) rfl (fun _ => rfl) ?_
      refine T_ld 415 (.int (i32 (m.1 26))) rfl (fun _ => rfl) ?_
      refine T_call 418 278 [.ref 189, .int (i32 (m.1 26))] [] rfl (fun _ => rfl) rfl (c_takeRoom w (mO m1247 [] []) c N D (by omega) Tm1247 (m.1 26) (r32 (by omega) (by omega)) (show LxP (m1247.1 7) (m1247.1 8) (m1247.1 9) (m1247.1 6) (m1247.1 10) by rewrite [(show (m1247.1 6) = (m.1 6) from ((fr1 Fm1247 6 rfl).trans ((fr1 Fm1235 6 rfl).trans ((fr1 Fm1217 6 rfl).trans ((fr1 Fm1192 6 rfl).trans (fr1 Fm4 6 rfl))))))]; first | exact hLx | exact (fun _ => hLx (by omega)) | (intro h9; exfalso; omega)) (show 0 ≤ (m.1 26) ∧ (m.1 26) ≤ 7 by omega) (fun (h : (m1247.1 10) = 0) => absurd h (by omega))) (fun rr1257 k1258 => ?_)
      obtain ⟨m1259, Tm1259, Fm1259, h1260, h1261, c1262, rfl⟩ := k1258
      refine ⟨_, _, rfl, ?_⟩
      refine T_nb (st' := []) rfl ?_
      have g1263 : 0 ≤ m1259.1 7 ∧ m1259.1 7 ≤ 330 := Tm1259.1 7
      have g1264 : 0 ≤ m1259.1 8 ∧ m1259.1 8 ≤ 4000 := Tm1259.1 8
      have g1265 : 0 ≤ m1259.1 9 ∧ m1259.1 9 ≤ 4000 := Tm1259.1 9
      have g1266 : 0 ≤ m1259.1 10 ∧ m1259.1 10 ≤ 8 := Tm1259.1 10
      have g1267 : (-1) ≤ m1259.1 11 ∧ m1259.1 11 ≤ 4000 := Tm1259.1 11
      replace h1260 : (m1259.1 10) = 0 → (m1247.1 10) = 0 := h1260
      replace h1261 : LxP (m1259.1 7) (m1259.1 8) (m1259.1 9) (m1247.1 6) (m1259.1 10) := h1261
      rewrite [(show (m1247.1 6) = (m.1 6) from ((fr1 Fm1247 6 rfl).trans ((fr1 Fm1235 6 rfl).trans ((fr1 Fm1217 6 rfl).trans ((fr1 Fm1192 6 rfl).trans (fr1 Fm4 6 rfl))))))] at h1261
      have hf1268 : 1 ≤ (m1259.1 10) := by omega
      clear c1262
      clear h1260
      have hLx := h1261
      clear g1251 g1252 g1253 g1254 g1255 hf1256 h1249
      refine T_ld 419 (.ref 189) rfl (fun _ => rfl) ?_
      refine T_ld 421 (.int (i32 125)) rfl (fun _ => rfl) ?_
      refine T_call 424 232 [.ref 189, .int (i32 125)] [] rfl (fun _ => rfl) rfl (d_need w (mO m1259 [] []) c N D (by omega) Tm1259 125 ⟨by decide, by decide⟩ (show 1 ≤ (125 : Int) by omega) (show LxP (m1259.1 7) (m1259.1 8) (m1259.1 9) (m1259.1 6) (m1259.1 10) by rewrite [(show (m1259.1 6) = (m.1 6) from ((fr1 Fm1259 6 rfl).trans ((fr1 Fm1247 6 rfl).trans ((fr1 Fm1235 6 rfl).trans ((fr1 Fm1217 6 rfl).trans ((fr1 Fm1192 6 rfl).trans (fr1 Fm4 6 rfl)))))))]; first | exact hLx | (intro h9; exfalso; omega) | (intro h9; have h8 := hLx (by omega); omega))) (fun rr1269 k1270 => ?_)
      obtain ⟨m1271, Tm1271, Fm1271, h1272, h1273, h1274, h1275, rfl⟩ := k1270
      refine ⟨_, _, rfl, ?_⟩
      refine T_nb (st' := []) rfl ?_
      have g1276 : 0 ≤ m1271.1 7 ∧ m1271.1 7 ≤ 330 := Tm1271.1 7
      have g1277 : 0 ≤ m1271.1 8 ∧ m1271.1 8 ≤ 4000 := Tm1271.1 8
      have g1278 : 0 ≤ m1271.1 9 ∧ m1271.1 9 ≤ 4000 := Tm1271.1 9
      have g1279 : 0 ≤ m1271.1 10 ∧ m1271.1 10 ≤ 8 := Tm1271.1 10
      have g1280 : (-1) ≤ m1271.1 11 ∧ m1271.1 11 ≤ 4000 := Tm1271.1 11
      replace h1272 : LxP (m1271.1 7) (m1271.1 8) (m1271.1 9) (m1259.1 6) (m1271.1 10) := h1272
      rewrite [(show (m1259.1 6) = (m.1 6) from ((fr1 Fm1259 6 rfl).trans ((fr1 Fm1247 6 rfl).trans ((fr1 Fm1235 6 rfl).trans ((fr1 Fm1217 6 rfl).trans ((fr1 Fm1192 6 rfl).trans (fr1 Fm4 6 rfl)))))))] at h1272
      replace h1273 : (m1271.1 10) = 0 → (m1259.1 10) = 0 ∧ (m1259.1 7) = (125 : Int) := h1273
      replace h1274 : (m1259.1 8) ≤ (m1271.1 8) := h1274
      replace h1275 : (m1271.1 10) = 0 → (m1259.1 8) + (m1259.1 9) ≤ (m1271.1 8) := h1275
      have hf1281 : 1 ≤ (m1271.1 10) := by omega
      clear h1273
      clear h1275
      have hLx := h1272
      clear g1263 g1264 g1265 g1266 g1267 hf1268 h1261 h1274
      refine T_ret rfl (fun _ => rfl) ?_
      exact ⟨(mO m1271 [] []), Tm1271, (fr_m (fr_s Fm1271 (fr_m (fr_s Fm1259 (fr_m (fr_s Fm1247 (fr_m (fr_s Fm1235 (fr_m (fr_s Fm1217 (fr_m (fr_s Fm1192 (fr_m (fr_s Fm4 (fr_m fr_0 rfl rfl) rfl rfl) rfl rfl) rfl rfl) rfl rfl) rfl rfl) rfl rfl) rfl rfl) rfl rfl) rfl rfl) rfl rfl) rfl rfl) rfl rfl) rfl rfl) rfl rfl), (show (m1271.1 10) = 0 → (m.1 10) = 0 by omega), (show LxP (m1271.1 7) (m1271.1 8) (m1271.1 9) (m.1 6) (m1271.1 10) by first | (first | exact hLx | exact (fun _ => hLx (by omega)) | (intro h9; exfalso; omega)) | (exfalso; omega)), (show ∀ k, (m1271.2 14) k + (m1271.2 15) k ≤ 4000 by rewrite [(show (m1271.2 14) = (m1192.2 14) from ((fr2 Fm1271 14 rfl).trans ((fr2 Fm1259 14 rfl).trans ((fr2 Fm1247 14 rfl).trans ((fr2 Fm1235 14 rfl).trans (fr2 Fm1217 14 rfl)))))), (show (m1271.2 15) = (m1192.2 15) from ((fr2 Fm1271 15 rfl).trans ((fr2 Fm1259 15 rfl).trans ((fr2 Fm1247 15 rfl).trans ((fr2 Fm1235 15 rfl).trans (fr2 Fm1217 15 rfl))))))]; first | (exact hNM) | (exfalso; omega)), (fun (h : (m1271.1 10) = 0) => absurd h (by omega)), rfl⟩
    · skip
      refine T_ret rfl (fun _ => rfl) ?_
      exact ⟨(mO m1192 [] []), Tm1192, (fr_m (fr_s Fm1192 (fr_m (fr_s Fm4 (fr_m fr_0 rfl rfl) rfl rfl) rfl rfl) rfl rfl) rfl rfl), (show (m1192.1 10) = 0 → (m.1 10) = 0 by omega), (show LxP (m1192.1 7) (m1192.1 8) (m1192.1 9) (m.1 6) (m1192.1 10) by first | (first | exact hLx | exact (fun _ => hLx (by omega)) | (intro h9; exfalso; omega)) | (exfalso; omega)), (show ∀ k, (m1192.2 14) k + (m1192.2 15) k ≤ 4000 by first | (exact hNM) | (exfalso; omega)), (fun (h : (m1192.1 10) = 0) => absurd h (by omega)), rfl⟩
